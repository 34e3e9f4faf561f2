noncomputable def r_Day_draw_0 (k : Nat) (d n : Nat) (m : am_M) : am_R := am_run am_G true (am_c d) 1 pg_Day_draw [] n 0 [some (.ref k)] m
set_option maxRecDepth 100000 in
theorem e_Day_draw_0 {k : Nat} (hk : sc_k k) (d n : Nat) (m : am_M) : r_Day_draw_0 k d (n + 1) m = (some (some (.int (((((((m.1 k 11).toInt64) * 1103515245) + 12345) &&& 2147483647).toInt32) / (zn 65536))), (am_w m.1 k 11 ((((((m.1 k 11).toInt64) * 1103515245) + 12345) &&& 2147483647).toInt32), m.2))) := by
  rcases hk with rfl | rfl | rfl | rfl | rfl <;> rfl
set_option maxRecDepth 100000 in
theorem n_Day_draw {k : Nat} (hk : sc_k k) (d : Nat) (m : am_M) : am_c (d + 1) y_Day_draw [.ref k] m = (some (some (.int (((((((m.1 k 11).toInt64) * 1103515245) + 12345) &&& 2147483647).toInt32) / (zn 65536))), (am_w m.1 k 11 ((((((m.1 k 11).toInt64) * 1103515245) + 12345) &&& 2147483647).toInt32), m.2))) := by
  have h : am_c (d + 1) y_Day_draw [.ref k] m = r_Day_draw_0 k d fu m := by
    rcases hk with rfl | rfl | rfl | rfl | rfl <;> rfl
  rw [h, fu_eq]; exact e_Day_draw_0 hk d 29999 m
noncomputable def r_Day_nameAll_0 (k : Nat) (d n : Nat) (a2 : Int32) (a3 : Int32) (m : am_M) : am_R := am_run am_G true (am_c d) 0 pg_Day_nameAll [] n 0 [some (.ref 26), some (.ref k), some (.int a2), some (.int a3), none] m
set_option maxRecDepth 100000 in
theorem e_Day_nameAll_0 {k : Nat} (hk : sc_k k) (d n : Nat) (a2 : Int32) (a3 : Int32) (m : am_M) : r_Day_nameAll_0 k d (n + 1) a2 a3 m = (am_b (am_oi a2 5) none (am_b (am_oi a2 5) none (am_b (am_eq (m.1 (k + 1) a2.toNatClampNeg) a2) (am_b (am_oi a2 5) none (some (none, (m.1, am_wl (am_wl (am_wl (am_wl (am_wl (am_wl (am_wl m.2 44 0 a3.toInt64) 44 1 ((m.1 47 a2.toNatClampNeg).toInt64)) 44 2 0) 44 3 1) 44 4 ((m.1 48 a2.toNatClampNeg).toInt64)) 44 5 ((m.1 k 10).toInt64)) 44 6 0)))) (am_b (am_oi a2 5) none (some (none, (m.1, am_wl (am_wl (am_wl (am_wl (am_wl (am_wl (am_wl m.2 44 0 a3.toInt64) 44 1 ((m.1 47 a2.toNatClampNeg).toInt64)) 44 2 0) 44 3 0) 44 4 ((m.1 48 a2.toNatClampNeg).toInt64)) 44 5 ((m.1 k 10).toInt64)) 44 6 0))))))) := by
  rcases hk with rfl | rfl | rfl | rfl | rfl <;> rfl
set_option maxRecDepth 100000 in
theorem n_Day_nameAll {k : Nat} (hk : sc_k k) (d : Nat) (a2 : Int32) (a3 : Int32) (m : am_M) : am_c (d + 1) y_Day_nameAll [.ref 26, .ref k, .int a2, .int a3] m = (am_b (am_oi a2 5) none (am_b (am_oi a2 5) none (am_b (am_eq (m.1 (k + 1) a2.toNatClampNeg) a2) (am_b (am_oi a2 5) none (some (none, (m.1, am_wl (am_wl (am_wl (am_wl (am_wl (am_wl (am_wl m.2 44 0 a3.toInt64) 44 1 ((m.1 47 a2.toNatClampNeg).toInt64)) 44 2 0) 44 3 1) 44 4 ((m.1 48 a2.toNatClampNeg).toInt64)) 44 5 ((m.1 k 10).toInt64)) 44 6 0)))) (am_b (am_oi a2 5) none (some (none, (m.1, am_wl (am_wl (am_wl (am_wl (am_wl (am_wl (am_wl m.2 44 0 a3.toInt64) 44 1 ((m.1 47 a2.toNatClampNeg).toInt64)) 44 2 0) 44 3 0) 44 4 ((m.1 48 a2.toNatClampNeg).toInt64)) 44 5 ((m.1 k 10).toInt64)) 44 6 0))))))) := by
  have h : am_c (d + 1) y_Day_nameAll [.ref 26, .ref k, .int a2, .int a3] m = r_Day_nameAll_0 k d fu a2 a3 m := by
    rcases hk with rfl | rfl | rfl | rfl | rfl <;> rfl
  rw [h, fu_eq]; exact e_Day_nameAll_0 hk d 29999 a2 a3 m
noncomputable def r_Deeds_clear_0 (d n : Nat) (m : am_M) : am_R := am_run am_G true (am_c d) 0 pg_Deeds_clear [] n 0 [some (.ref 102)] m
set_option maxRecDepth 100000 in
theorem e_Deeds_clear_0 (d n : Nat) (m : am_M) : r_Deeds_clear_0 d (n + 1) m = (some (none, (am_w m.1 102 4 (zn 0), m.2))) := rfl
set_option maxRecDepth 100000 in
theorem n_Deeds_clear (d : Nat) (m : am_M) : am_c (d + 1) y_Deeds_clear [.ref 102] m = (some (none, (am_w m.1 102 4 (zn 0), m.2))) := by
  have h : am_c (d + 1) y_Deeds_clear [.ref 102] m = r_Deeds_clear_0 d fu m := by
    rfl
  rw [h, fu_eq]; exact e_Deeds_clear_0 d 29999 m
noncomputable def r_Finder_lampFound_0 (d n : Nat) (a1 : Int32) (m : am_M) : am_R := am_run am_G true (am_c d) 1 pg_Finder_lampFound [] n 0 [some (.ref 25), some (.int a1)] m
set_option maxRecDepth 100000 in
theorem e_Finder_lampFound_0 (d n : Nat) (a1 : Int32) (m : am_M) : r_Finder_lampFound_0 d (n + 1) a1 m = (am_b (am_lt a1 (zn 0)) (some (some (.int zq), m)) (am_b (am_le (m.1 27 8) a1) (some (some (.int zq), m)) (am_b (am_oi a1 5) none (some (some (.int (m.1 67 a1.toNatClampNeg)), m))))) := rfl
set_option maxRecDepth 100000 in
theorem n_Finder_lampFound (d : Nat) (a1 : Int32) (m : am_M) : am_c (d + 1) y_Finder_lampFound [.ref 25, .int a1] m = (am_b (am_lt a1 (zn 0)) (some (some (.int zq), m)) (am_b (am_le (m.1 27 8) a1) (some (some (.int zq), m)) (am_b (am_oi a1 5) none (some (some (.int (m.1 67 a1.toNatClampNeg)), m))))) := by
  have h : am_c (d + 1) y_Finder_lampFound [.ref 25, .int a1] m = r_Finder_lampFound_0 d fu a1 m := by
    rfl
  rw [h, fu_eq]; exact e_Finder_lampFound_0 d 29999 a1 m
noncomputable def r_Finder_exchangeInOrder_0 (d n : Nat) (a1 : Int32) (a2 : Int32) (m : am_M) : am_R := am_run am_G true (am_c d) 0 pg_Finder_exchangeInOrder [] n 0 [some (.ref 25), some (.int a1), some (.int a2), none] m
set_option maxRecDepth 100000 in
theorem e_Finder_exchangeInOrder_0 (d n : Nat) (a1 : Int32) (a2 : Int32) (m : am_M) : r_Finder_exchangeInOrder_0 d (n + 1) a1 a2 m = (am_b (am_oi a1 5) none (am_b (am_oi a2 5) none (am_b (am_oi a1 5) none (am_b (am_oi a2 5) none (some (none, (am_w (am_w m.1 66 a1.toNatClampNeg (m.1 66 a2.toNatClampNeg)) 66 a2.toNatClampNeg (m.1 66 a1.toNatClampNeg), m.2))))))) := rfl
set_option maxRecDepth 100000 in
theorem n_Finder_exchangeInOrder (d : Nat) (a1 : Int32) (a2 : Int32) (m : am_M) : am_c (d + 1) y_Finder_exchangeInOrder [.ref 25, .int a1, .int a2] m = (am_b (am_oi a1 5) none (am_b (am_oi a2 5) none (am_b (am_oi a1 5) none (am_b (am_oi a2 5) none (some (none, (am_w (am_w m.1 66 a1.toNatClampNeg (m.1 66 a2.toNatClampNeg)) 66 a2.toNatClampNeg (m.1 66 a1.toNatClampNeg), m.2))))))) := by
  have h : am_c (d + 1) y_Finder_exchangeInOrder [.ref 25, .int a1, .int a2] m = r_Finder_exchangeInOrder_0 d fu a1 a2 m := by
    rfl
  rw [h, fu_eq]; exact e_Finder_exchangeInOrder_0 d 29999 a1 a2 m
noncomputable def r_Finder_isRest_0 (d n : Nat) (a1 : Int32) (a2 : Int32) (m : am_M) : am_R := am_run am_G true (am_c d) 2 pg_Finder_isRest [9] n 0 [some (.ref 25), some (.int a1), some (.int a2), none, none] m
noncomputable def r_Finder_isRest_9 (d n : Nat) (x1 : Int32) (x2 : Int32) (x3 : Int32) (x4 : Int32) (m : am_M) : am_R := am_run am_G true (am_c d) 2 pg_Finder_isRest [9] n 9 [some (.ref 25), some (.int x1), some (.int x2), some (.int x3), some (.int x4)] m
set_option maxRecDepth 100000 in
theorem e_Finder_isRest_0 (d n : Nat) (a1 : Int32) (a2 : Int32) (m : am_M) : r_Finder_isRest_0 d (n + 1) a1 a2 m = (r_Finder_isRest_9 d n a1 a2 ((a1 * (zn 5)) + a2) (zn 0) m) := rfl
set_option maxRecDepth 100000 in
theorem e_Finder_isRest_9 (d n : Nat) (x1 : Int32) (x2 : Int32) (x3 : Int32) (x4 : Int32) (m : am_M) : r_Finder_isRest_9 d (n + 1) x1 x2 x3 x4 m = (am_b (am_le (zn 5) x4) (some (some (.int (zn 1)), m)) (am_b (am_oi ((x4 * (zn 5)) + x2) 25) none (am_b (am_oi x3 25) none (am_b (am_lt (m.1 68 x3.toNatClampNeg) (m.1 68 (((x4 * (zn 5)) + x2).toNatClampNeg))) (some (some (.int (zn 0)), m)) (am_b (am_oi ((x1 * (zn 5)) + x4) 25) none (am_b (am_oi x3 25) none (am_b (am_le (m.1 69 (((x1 * (zn 5)) + x4).toNatClampNeg)) (m.1 69 x3.toNatClampNeg)) (r_Finder_isRest_9 d n x1 x2 x3 (x4 + (zn 1)) m) (some (some (.int (zn 0)), m))))))))) := rfl
set_option maxRecDepth 100000 in
theorem n_Finder_isRest (d : Nat) (a1 : Int32) (a2 : Int32) (m : am_M) : am_c (d + 1) y_Finder_isRest [.ref 25, .int a1, .int a2] m = (r_Finder_isRest_9 d 29999 a1 a2 ((a1 * (zn 5)) + a2) (zn 0) m) := by
  have h : am_c (d + 1) y_Finder_isRest [.ref 25, .int a1, .int a2] m = r_Finder_isRest_0 d fu a1 a2 m := by
    rfl
  rw [h, fu_eq]; exact e_Finder_isRest_0 d 29999 a1 a2 m
noncomputable def r_Finder_restAt_0 (d n : Nat) (a1 : Int32) (m : am_M) : am_R := am_run am_G true (am_c d) 1 pg_Finder_restAt [] n 0 [some (.ref 25), some (.int a1)] m
set_option maxRecDepth 100000 in
theorem e_Finder_restAt_0 (d n : Nat) (a1 : Int32) (m : am_M) : r_Finder_restAt_0 d (n + 1) a1 m = (am_b (am_lt a1 (zn 0)) (some (some (.int zq), m)) (am_b (am_le (zn 25) a1) (some (some (.int zq), m)) (am_b (am_oi a1 25) none (some (some (.int (m.1 70 a1.toNatClampNeg)), m))))) := rfl
set_option maxRecDepth 100000 in
theorem n_Finder_restAt (d : Nat) (a1 : Int32) (m : am_M) : am_c (d + 1) y_Finder_restAt [.ref 25, .int a1] m = (am_b (am_lt a1 (zn 0)) (some (some (.int zq), m)) (am_b (am_le (zn 25) a1) (some (some (.int zq), m)) (am_b (am_oi a1 25) none (some (some (.int (m.1 70 a1.toNatClampNeg)), m))))) := by
  have h : am_c (d + 1) y_Finder_restAt [.ref 25, .int a1] m = r_Finder_restAt_0 d fu a1 m := by
    rfl
  rw [h, fu_eq]; exact e_Finder_restAt_0 d 29999 a1 m
noncomputable def r_Laws_clear_0 (d n : Nat) (m : am_M) : am_R := am_run am_G true (am_c d) 0 pg_Laws_clear [7] n 0 [some (.ref 17), none] m
noncomputable def r_Laws_clear_7 (d n : Nat) (x1 : Int32) (m : am_M) : am_R := am_run am_G true (am_c d) 0 pg_Laws_clear [7] n 7 [some (.ref 17), some (.int x1)] m
set_option maxRecDepth 100000 in
theorem e_Laws_clear_0 (d n : Nat) (m : am_M) : r_Laws_clear_0 d (n + 1) m = (r_Laws_clear_7 d n (zn 0) (am_w m.1 17 2 (zn 0), m.2)) := rfl
set_option maxRecDepth 100000 in
theorem e_Laws_clear_7 (d n : Nat) (x1 : Int32) (m : am_M) : r_Laws_clear_7 d (n + 1) x1 m = (am_b (am_le (zn 3) x1) (some (none, m)) (am_b (am_oi x1 3) none (am_b (am_oi x1 3) none (r_Laws_clear_7 d n (x1 + (zn 1)) (am_w (am_w m.1 20 x1.toNatClampNeg (zn 0)) 21 x1.toNatClampNeg (zn 0), m.2))))) := rfl
set_option maxRecDepth 100000 in
theorem n_Laws_clear (d : Nat) (m : am_M) : am_c (d + 1) y_Laws_clear [.ref 17] m = (r_Laws_clear_7 d 29999 (zn 0) (am_w m.1 17 2 (zn 0), m.2)) := by
  have h : am_c (d + 1) y_Laws_clear [.ref 17] m = r_Laws_clear_0 d fu m := by
    rfl
  rw [h, fu_eq]; exact e_Laws_clear_0 d 29999 m
noncomputable def r_Laws_put_0 (d n : Nat) (a1 : Int32) (a2 : Int32) (m : am_M) : am_R := am_run am_G true (am_c d) 0 pg_Laws_put [] n 0 [some (.ref 17), some (.int a1), some (.int a2)] m
set_option maxRecDepth 100000 in
theorem e_Laws_put_0 (d n : Nat) (a1 : Int32) (a2 : Int32) (m : am_M) : r_Laws_put_0 d (n + 1) a1 a2 m = (am_b (am_le (zn 64) (m.1 17 2)) (some (none, m)) (am_b (am_oi (m.1 17 2) 64) none (am_b (am_oi (m.1 17 2) 64) none (some (none, (am_w (am_w (am_w m.1 18 ((m.1 17 2).toNatClampNeg) a1) 19 ((m.1 17 2).toNatClampNeg) a2) 17 2 ((m.1 17 2) + (zn 1)), m.2)))))) := rfl
set_option maxRecDepth 100000 in
theorem n_Laws_put (d : Nat) (a1 : Int32) (a2 : Int32) (m : am_M) : am_c (d + 1) y_Laws_put [.ref 17, .int a1, .int a2] m = (am_b (am_le (zn 64) (m.1 17 2)) (some (none, m)) (am_b (am_oi (m.1 17 2) 64) none (am_b (am_oi (m.1 17 2) 64) none (some (none, (am_w (am_w (am_w m.1 18 ((m.1 17 2).toNatClampNeg) a1) 19 ((m.1 17 2).toNatClampNeg) a2) 17 2 ((m.1 17 2) + (zn 1)), m.2)))))) := by
  have h : am_c (d + 1) y_Laws_put [.ref 17, .int a1, .int a2] m = r_Laws_put_0 d fu a1 a2 m := by
    rfl
  rw [h, fu_eq]; exact e_Laws_put_0 d 29999 a1 a2 m
noncomputable def r_Laws_isTold_17_0 (d n : Nat) (a1 : Int32) (m : am_M) : am_R := am_run am_G true (am_c d) 2 pg_Laws_isTold [] n 0 [some (.ref 17), some (.int a1)] m
set_option maxRecDepth 100000 in
theorem e_Laws_isTold_17_0 (d n : Nat) (a1 : Int32) (m : am_M) : r_Laws_isTold_17_0 d (n + 1) a1 m = (am_b (am_oi a1 3) none (am_b (am_oi a1 3) none (am_b (am_le (m.1 21 a1.toNatClampNeg) (m.1 20 a1.toNatClampNeg)) (some (some (.int (zn 0)), m)) (some (some (.int (zn 1)), m))))) := rfl
set_option maxRecDepth 100000 in
theorem n_Laws_isTold_17 (d : Nat) (a1 : Int32) (m : am_M) : am_c (d + 1) y_Laws_isTold [.ref 17, .int a1] m = (am_b (am_oi a1 3) none (am_b (am_oi a1 3) none (am_b (am_le (m.1 21 a1.toNatClampNeg) (m.1 20 a1.toNatClampNeg)) (some (some (.int (zn 0)), m)) (some (some (.int (zn 1)), m))))) := by
  have h : am_c (d + 1) y_Laws_isTold [.ref 17, .int a1] m = r_Laws_isTold_17_0 d fu a1 m := by
    rfl
  rw [h, fu_eq]; exact e_Laws_isTold_17_0 d 29999 a1 m
noncomputable def r_Laws_isTold_39_0 (d n : Nat) (a1 : Int32) (m : am_M) : am_R := am_run am_G true (am_c d) 2 pg_Laws_isTold [] n 0 [some (.ref 39), some (.int a1)] m
set_option maxRecDepth 100000 in
theorem e_Laws_isTold_39_0 (d n : Nat) (a1 : Int32) (m : am_M) : r_Laws_isTold_39_0 d (n + 1) a1 m = (am_b (am_oi a1 3) none (am_b (am_oi a1 3) none (am_b (am_le (m.1 43 a1.toNatClampNeg) (m.1 42 a1.toNatClampNeg)) (some (some (.int (zn 0)), m)) (some (some (.int (zn 1)), m))))) := rfl
set_option maxRecDepth 100000 in
theorem n_Laws_isTold_39 (d : Nat) (a1 : Int32) (m : am_M) : am_c (d + 1) y_Laws_isTold [.ref 39, .int a1] m = (am_b (am_oi a1 3) none (am_b (am_oi a1 3) none (am_b (am_le (m.1 43 a1.toNatClampNeg) (m.1 42 a1.toNatClampNeg)) (some (some (.int (zn 0)), m)) (some (some (.int (zn 1)), m))))) := by
  have h : am_c (d + 1) y_Laws_isTold [.ref 39, .int a1] m = r_Laws_isTold_39_0 d fu a1 m := by
    rfl
  rw [h, fu_eq]; exact e_Laws_isTold_39_0 d 29999 a1 m
noncomputable def r_Memory_clear_0 (d n : Nat) (m : am_M) : am_R := am_run am_G true (am_c d) 0 pg_Memory_clear [] n 0 [some (.ref 97)] m
set_option maxRecDepth 100000 in
theorem e_Memory_clear_0 (d n : Nat) (m : am_M) : r_Memory_clear_0 d (n + 1) m = (some (none, (am_w (am_w m.1 97 4 (zn 0)) 97 5 zm, m.2))) := rfl
set_option maxRecDepth 100000 in
theorem n_Memory_clear (d : Nat) (m : am_M) : am_c (d + 1) y_Memory_clear [.ref 97] m = (some (none, (am_w (am_w m.1 97 4 (zn 0)) 97 5 zm, m.2))) := by
  have h : am_c (d + 1) y_Memory_clear [.ref 97] m = r_Memory_clear_0 d fu m := by
    rfl
  rw [h, fu_eq]; exact e_Memory_clear_0 d 29999 m
noncomputable def r_Memory_add_0 (d n : Nat) (a1 : Int32) (a2 : Int32) (a3 : Int32) (m : am_M) : am_R := am_run am_G true (am_c d) 1 pg_Memory_add [] n 0 [some (.ref 97), some (.int a1), some (.int a2), some (.int a3)] m
set_option maxRecDepth 100000 in
theorem e_Memory_add_0 (d n : Nat) (a1 : Int32) (a2 : Int32) (a3 : Int32) (m : am_M) : r_Memory_add_0 d (n + 1) a1 a2 a3 m = (am_b (am_lt (m.1 97 4) (zn 24)) (am_b (am_oi (m.1 97 4) 24) none (am_b (am_oi (m.1 97 4) 24) none (am_b (am_oi (m.1 97 4) 24) none (some (some (.int (((m.1 97 4) + (zn 1)) - (zn 1))), (am_w (am_w (am_w (am_w m.1 98 ((m.1 97 4).toNatClampNeg) a1) 99 ((m.1 97 4).toNatClampNeg) a2) 100 ((m.1 97 4).toNatClampNeg) a3) 97 4 ((m.1 97 4) + (zn 1)), m.2)))))) (some (some (.int zm), m))) := rfl
set_option maxRecDepth 100000 in
theorem n_Memory_add (d : Nat) (a1 : Int32) (a2 : Int32) (a3 : Int32) (m : am_M) : am_c (d + 1) y_Memory_add [.ref 97, .int a1, .int a2, .int a3] m = (am_b (am_lt (m.1 97 4) (zn 24)) (am_b (am_oi (m.1 97 4) 24) none (am_b (am_oi (m.1 97 4) 24) none (am_b (am_oi (m.1 97 4) 24) none (some (some (.int (((m.1 97 4) + (zn 1)) - (zn 1))), (am_w (am_w (am_w (am_w m.1 98 ((m.1 97 4).toNatClampNeg) a1) 99 ((m.1 97 4).toNatClampNeg) a2) 100 ((m.1 97 4).toNatClampNeg) a3) 97 4 ((m.1 97 4) + (zn 1)), m.2)))))) (some (some (.int zm), m))) := by
  have h : am_c (d + 1) y_Memory_add [.ref 97, .int a1, .int a2, .int a3] m = r_Memory_add_0 d fu a1 a2 a3 m := by
    rfl
  rw [h, fu_eq]; exact e_Memory_add_0 d 29999 a1 a2 a3 m
noncomputable def r_Memory_countBy_0 (d n : Nat) (m : am_M) : am_R := am_run am_G true (am_c d) 1 pg_Memory_countBy [] n 0 [some (.ref 97)] m
set_option maxRecDepth 100000 in
theorem e_Memory_countBy_0 (d n : Nat) (m : am_M) : r_Memory_countBy_0 d (n + 1) m = (am_b (am_eq (m.1 97 5) zm) (some (some (.int (m.1 97 4)), m)) (some (some (.int (m.1 97 5)), m))) := rfl
set_option maxRecDepth 100000 in
theorem n_Memory_countBy (d : Nat) (m : am_M) : am_c (d + 1) y_Memory_countBy [.ref 97] m = (am_b (am_eq (m.1 97 5) zm) (some (some (.int (m.1 97 4)), m)) (some (some (.int (m.1 97 5)), m))) := by
  have h : am_c (d + 1) y_Memory_countBy [.ref 97] m = r_Memory_countBy_0 d fu m := by
    rfl
  rw [h, fu_eq]; exact e_Memory_countBy_0 d 29999 m
noncomputable def r_Memory_isKnown_0 (d n : Nat) (a1 : Int32) (m : am_M) : am_R := am_run am_G true (am_c d) 2 pg_Memory_isKnown [] n 0 [some (.ref 97), some (.int a1)] m
set_option maxRecDepth 100000 in
theorem e_Memory_isKnown_0 (d n : Nat) (a1 : Int32) (m : am_M) : r_Memory_isKnown_0 d (n + 1) a1 m = (am_b (am_oi a1 24) none (am_b (am_eq (m.1 98 a1.toNatClampNeg) (zn 0)) (some (some (.int (zn 0)), m)) (am_b (am_oi a1 24) none (am_b (am_eq (m.1 101 a1.toNatClampNeg) (zn 0)) (some (some (.int (zn 1)), m)) (some (some (.int (zn 0)), m)))))) := rfl
set_option maxRecDepth 100000 in
theorem n_Memory_isKnown (d : Nat) (a1 : Int32) (m : am_M) : am_c (d + 1) y_Memory_isKnown [.ref 97, .int a1] m = (am_b (am_oi a1 24) none (am_b (am_eq (m.1 98 a1.toNatClampNeg) (zn 0)) (some (some (.int (zn 0)), m)) (am_b (am_oi a1 24) none (am_b (am_eq (m.1 101 a1.toNatClampNeg) (zn 0)) (some (some (.int (zn 1)), m)) (some (some (.int (zn 0)), m)))))) := by
  have h : am_c (d + 1) y_Memory_isKnown [.ref 97, .int a1] m = r_Memory_isKnown_0 d fu a1 m := by
    rfl
  rw [h, fu_eq]; exact e_Memory_isKnown_0 d 29999 a1 m
noncomputable def r_Reader_fail_0 (d n : Nat) (a1 : Int32) (m : am_M) : am_R := am_run am_G true (am_c d) 2 pg_Reader_fail [] n 0 [some (.ref 1), some (.int a1)] m
set_option maxRecDepth 100000 in
theorem e_Reader_fail_0 (d n : Nat) (a1 : Int32) (m : am_M) : r_Reader_fail_0 d (n + 1) a1 m = (some (some (.int (zn 0)), (am_w (am_w m.1 1 12 a1) 1 13 (m.1 2 5), m.2))) := rfl
set_option maxRecDepth 100000 in
theorem n_Reader_fail (d : Nat) (a1 : Int32) (m : am_M) : am_c (d + 1) y_Reader_fail [.ref 1, .int a1] m = (some (some (.int (zn 0)), (am_w (am_w m.1 1 12 a1) 1 13 (m.1 2 5), m.2))) := by
  have h : am_c (d + 1) y_Reader_fail [.ref 1, .int a1] m = r_Reader_fail_0 d fu a1 m := by
    rfl
  rw [h, fu_eq]; exact e_Reader_fail_0 d 29999 a1 m
noncomputable def r_Reader_hold_0 (d n : Nat) (a1 : Int32) (m : am_M) : am_R := am_run am_G true (am_c d) 0 pg_Reader_hold [] n 0 [some (.ref 1), some (.int a1)] m
set_option maxRecDepth 100000 in
theorem e_Reader_hold_0 (d n : Nat) (a1 : Int32) (m : am_M) : r_Reader_hold_0 d (n + 1) a1 m = (am_b (am_le (zn 72) (m.1 1 3)) (some (none, m)) (am_b (am_oi (m.1 1 3) 72) none (some (none, (am_w (am_w m.1 24 ((m.1 1 3).toNatClampNeg) a1) 1 3 ((m.1 1 3) + (zn 1)), m.2))))) := rfl
set_option maxRecDepth 100000 in
theorem n_Reader_hold (d : Nat) (a1 : Int32) (m : am_M) : am_c (d + 1) y_Reader_hold [.ref 1, .int a1] m = (am_b (am_le (zn 72) (m.1 1 3)) (some (none, m)) (am_b (am_oi (m.1 1 3) 72) none (some (none, (am_w (am_w m.1 24 ((m.1 1 3).toNatClampNeg) a1) 1 3 ((m.1 1 3) + (zn 1)), m.2))))) := by
  have h : am_c (d + 1) y_Reader_hold [.ref 1, .int a1] m = r_Reader_hold_0 d fu a1 m := by
    rfl
  rw [h, fu_eq]; exact e_Reader_hold_0 d 29999 a1 m
noncomputable def r_Reader_strengthOf_0 (d n : Nat) (a0 : Int32) (m : am_M) : am_R := am_run am_G true (am_c d) 1 pg_Reader_strengthOf [] n 0 [some (.int a0)] m
set_option maxRecDepth 100000 in
theorem e_Reader_strengthOf_0 (d n : Nat) (a0 : Int32) (m : am_M) : r_Reader_strengthOf_0 d (n + 1) a0 m = (am_b (am_eq a0 (zn 15)) (some (some (.int (zn 1)), m)) (am_b (am_eq a0 (zn 16)) (some (some (.int (zn 2)), m)) (am_b (am_eq a0 (zn 17)) (some (some (.int (zn 3)), m)) (am_b (am_eq a0 (zn 18)) (some (some (.int (zn 0)), m)) (am_b (am_eq a0 (zn 19)) (some (some (.int (zn 0)), m)) (am_b (am_eq a0 (zn 20)) (some (some (.int (zn 0)), m)) (am_b (am_eq a0 (zn 21)) (some (some (.int (zn 0)), m)) (am_b (am_eq a0 (zn 22)) (some (some (.int (zn 0)), m)) (am_b (am_eq a0 (zn 23)) (some (some (.int (zn 0)), m)) (am_b (am_eq a0 (zn 24)) (some (some (.int (zn 0)), m)) (am_b (am_eq a0 (zn 25)) (some (some (.int (zn 0)), m)) (am_b (am_eq a0 (zn 26)) (some (some (.int (zn 0)), m)) (am_b (am_eq a0 (zn 27)) (some (some (.int (zn 0)), m)) (am_b (am_eq a0 (zn 28)) (some (some (.int (zn 0)), m)) (am_b (am_eq a0 (zn 29)) (some (some (.int (zn 0)), m)) (am_b (am_eq a0 (zn 30)) (some (some (.int (zn 4)), m)) (am_b (am_eq a0 (zn 31)) (some (some (.int (zn 4)), m)) (am_b (am_eq a0 (zn 32)) (some (some (.int (zn 4)), m)) (am_b (am_eq a0 (zn 33)) (some (some (.int (zn 4)), m)) (am_b (am_eq a0 (zn 34)) (some (some (.int (zn 4)), m)) (am_b (am_eq a0 (zn 35)) (some (some (.int (zn 4)), m)) (am_b (am_eq a0 (zn 36)) (some (some (.int (zn 5)), m)) (am_b (am_eq a0 (zn 37)) (some (some (.int (zn 5)), m)) (am_b (am_eq a0 (zn 38)) (some (some (.int (zn 6)), m)) (am_b (am_eq a0 (zn 39)) (some (some (.int (zn 6)), m)) (some (some (.int (zn 0)), m))))))))))))))))))))))))))) := rfl
set_option maxRecDepth 100000 in
theorem n_Reader_strengthOf (d : Nat) (a0 : Int32) (m : am_M) : am_c (d + 1) y_Reader_strengthOf [.int a0] m = (am_b (am_eq a0 (zn 15)) (some (some (.int (zn 1)), m)) (am_b (am_eq a0 (zn 16)) (some (some (.int (zn 2)), m)) (am_b (am_eq a0 (zn 17)) (some (some (.int (zn 3)), m)) (am_b (am_eq a0 (zn 18)) (some (some (.int (zn 0)), m)) (am_b (am_eq a0 (zn 19)) (some (some (.int (zn 0)), m)) (am_b (am_eq a0 (zn 20)) (some (some (.int (zn 0)), m)) (am_b (am_eq a0 (zn 21)) (some (some (.int (zn 0)), m)) (am_b (am_eq a0 (zn 22)) (some (some (.int (zn 0)), m)) (am_b (am_eq a0 (zn 23)) (some (some (.int (zn 0)), m)) (am_b (am_eq a0 (zn 24)) (some (some (.int (zn 0)), m)) (am_b (am_eq a0 (zn 25)) (some (some (.int (zn 0)), m)) (am_b (am_eq a0 (zn 26)) (some (some (.int (zn 0)), m)) (am_b (am_eq a0 (zn 27)) (some (some (.int (zn 0)), m)) (am_b (am_eq a0 (zn 28)) (some (some (.int (zn 0)), m)) (am_b (am_eq a0 (zn 29)) (some (some (.int (zn 0)), m)) (am_b (am_eq a0 (zn 30)) (some (some (.int (zn 4)), m)) (am_b (am_eq a0 (zn 31)) (some (some (.int (zn 4)), m)) (am_b (am_eq a0 (zn 32)) (some (some (.int (zn 4)), m)) (am_b (am_eq a0 (zn 33)) (some (some (.int (zn 4)), m)) (am_b (am_eq a0 (zn 34)) (some (some (.int (zn 4)), m)) (am_b (am_eq a0 (zn 35)) (some (some (.int (zn 4)), m)) (am_b (am_eq a0 (zn 36)) (some (some (.int (zn 5)), m)) (am_b (am_eq a0 (zn 37)) (some (some (.int (zn 5)), m)) (am_b (am_eq a0 (zn 38)) (some (some (.int (zn 6)), m)) (am_b (am_eq a0 (zn 39)) (some (some (.int (zn 6)), m)) (some (some (.int (zn 0)), m))))))))))))))))))))))))))) := by
  have h : am_c (d + 1) y_Reader_strengthOf [.int a0] m = r_Reader_strengthOf_0 d fu a0 m := by
    rfl
  rw [h, fu_eq]; exact e_Reader_strengthOf_0 d 29999 a0 m
noncomputable def r_Scanner_isLetter_0 (d n : Nat) (a1 : Int32) (m : am_M) : am_R := am_run am_G true (am_c d) 2 pg_Scanner_isLetter [] n 0 [some (.ref 2), some (.int a1)] m
set_option maxRecDepth 100000 in
theorem e_Scanner_isLetter_0 (d n : Nat) (a1 : Int32) (m : am_M) : r_Scanner_isLetter_0 d (n + 1) a1 m = (am_b (am_le (m.1 2 2) a1) (some (some (.int (zn 0)), m)) (am_b (am_oi a1 700) none (am_b (am_lt (m.1 3 a1.toNatClampNeg) (zn 97)) (some (some (.int (zn 0)), m)) (am_b (am_oi a1 700) none (am_b (am_lt (zn 122) (m.1 3 a1.toNatClampNeg)) (some (some (.int (zn 0)), m)) (some (some (.int (zn 1)), m))))))) := rfl
set_option maxRecDepth 100000 in
theorem n_Scanner_isLetter (d : Nat) (a1 : Int32) (m : am_M) : am_c (d + 1) y_Scanner_isLetter [.ref 2, .int a1] m = (am_b (am_le (m.1 2 2) a1) (some (some (.int (zn 0)), m)) (am_b (am_oi a1 700) none (am_b (am_lt (m.1 3 a1.toNatClampNeg) (zn 97)) (some (some (.int (zn 0)), m)) (am_b (am_oi a1 700) none (am_b (am_lt (zn 122) (m.1 3 a1.toNatClampNeg)) (some (some (.int (zn 0)), m)) (some (some (.int (zn 1)), m))))))) := by
  have h : am_c (d + 1) y_Scanner_isLetter [.ref 2, .int a1] m = r_Scanner_isLetter_0 d fu a1 m := by
    rfl
  rw [h, fu_eq]; exact e_Scanner_isLetter_0 d 29999 a1 m
noncomputable def r_Scanner_isDigit_0 (d n : Nat) (a1 : Int32) (m : am_M) : am_R := am_run am_G true (am_c d) 2 pg_Scanner_isDigit [] n 0 [some (.ref 2), some (.int a1)] m
set_option maxRecDepth 100000 in
theorem e_Scanner_isDigit_0 (d n : Nat) (a1 : Int32) (m : am_M) : r_Scanner_isDigit_0 d (n + 1) a1 m = (am_b (am_le (m.1 2 2) a1) (some (some (.int (zn 0)), m)) (am_b (am_oi a1 700) none (am_b (am_lt (m.1 3 a1.toNatClampNeg) (zn 48)) (some (some (.int (zn 0)), m)) (am_b (am_oi a1 700) none (am_b (am_lt (zn 57) (m.1 3 a1.toNatClampNeg)) (some (some (.int (zn 0)), m)) (some (some (.int (zn 1)), m))))))) := rfl
set_option maxRecDepth 100000 in
theorem n_Scanner_isDigit (d : Nat) (a1 : Int32) (m : am_M) : am_c (d + 1) y_Scanner_isDigit [.ref 2, .int a1] m = (am_b (am_le (m.1 2 2) a1) (some (some (.int (zn 0)), m)) (am_b (am_oi a1 700) none (am_b (am_lt (m.1 3 a1.toNatClampNeg) (zn 48)) (some (some (.int (zn 0)), m)) (am_b (am_oi a1 700) none (am_b (am_lt (zn 57) (m.1 3 a1.toNatClampNeg)) (some (some (.int (zn 0)), m)) (some (some (.int (zn 1)), m))))))) := by
  have h : am_c (d + 1) y_Scanner_isDigit [.ref 2, .int a1] m = r_Scanner_isDigit_0 d fu a1 m := by
    rfl
  rw [h, fu_eq]; exact e_Scanner_isDigit_0 d 29999 a1 m
noncomputable def r_Scanner_isSign_0 (d n : Nat) (a1 : Int32) (a2 : Int32) (m : am_M) : am_R := am_run am_G true (am_c d) 2 pg_Scanner_isSign [] n 0 [some (.ref 2), some (.int a1), some (.int a2)] m
set_option maxRecDepth 100000 in
theorem e_Scanner_isSign_0 (d n : Nat) (a1 : Int32) (a2 : Int32) (m : am_M) : r_Scanner_isSign_0 d (n + 1) a1 a2 m = (am_b (am_le (m.1 2 2) a1) (some (some (.int (zn 0)), m)) (am_b (am_oi a1 700) none (am_b (am_eq (m.1 3 a1.toNatClampNeg) a2) (some (some (.int (zn 1)), m)) (some (some (.int (zn 0)), m))))) := rfl
set_option maxRecDepth 100000 in
theorem n_Scanner_isSign (d : Nat) (a1 : Int32) (a2 : Int32) (m : am_M) : am_c (d + 1) y_Scanner_isSign [.ref 2, .int a1, .int a2] m = (am_b (am_le (m.1 2 2) a1) (some (some (.int (zn 0)), m)) (am_b (am_oi a1 700) none (am_b (am_eq (m.1 3 a1.toNatClampNeg) a2) (some (some (.int (zn 1)), m)) (some (some (.int (zn 0)), m))))) := by
  have h : am_c (d + 1) y_Scanner_isSign [.ref 2, .int a1, .int a2] m = r_Scanner_isSign_0 d fu a1 a2 m := by
    rfl
  rw [h, fu_eq]; exact e_Scanner_isSign_0 d 29999 a1 a2 m
noncomputable def r_Scene_countOwn_0 (k : Nat) (d n : Nat) (m : am_M) : am_R := am_run am_G true (am_c d) 1 pg_Scene_countOwn [4] n 0 [some (.ref k), none, none] m
noncomputable def r_Scene_countOwn_4 (k : Nat) (d n : Nat) (x1 : Int32) (x2 : Int32) (m : am_M) : am_R := am_run am_G true (am_c d) 1 pg_Scene_countOwn [4] n 4 [some (.ref k), some (.int x1), some (.int x2)] m
set_option maxRecDepth 100000 in
theorem e_Scene_countOwn_0 {k : Nat} (hk : sc_k k) (d n : Nat) (m : am_M) : r_Scene_countOwn_0 k d (n + 1) m = (r_Scene_countOwn_4 k d n (zn 0) (zn 0) m) := by
  rcases hk with rfl | rfl | rfl | rfl | rfl <;> rfl
set_option maxRecDepth 100000 in
theorem e_Scene_countOwn_4 {k : Nat} (hk : sc_k k) (d n : Nat) (x1 : Int32) (x2 : Int32) (m : am_M) : r_Scene_countOwn_4 k d (n + 1) x1 x2 m = (am_b (am_le (m.1 k 0) x2) (some (some (.int x1), m)) (am_b (am_oi x2 5) none (am_b (am_eq (m.1 (k + 1) x2.toNatClampNeg) x2) (r_Scene_countOwn_4 k d n (x1 + (zn 1)) (x2 + (zn 1)) m) (r_Scene_countOwn_4 k d n x1 (x2 + (zn 1)) m)))) := by
  rcases hk with rfl | rfl | rfl | rfl | rfl <;> rfl
set_option maxRecDepth 100000 in
theorem n_Scene_countOwn {k : Nat} (hk : sc_k k) (d : Nat) (m : am_M) : am_c (d + 1) y_Scene_countOwn [.ref k] m = (r_Scene_countOwn_4 k d 29999 (zn 0) (zn 0) m) := by
  have h : am_c (d + 1) y_Scene_countOwn [.ref k] m = r_Scene_countOwn_0 k d fu m := by
    rcases hk with rfl | rfl | rfl | rfl | rfl <;> rfl
  rw [h, fu_eq]; exact e_Scene_countOwn_0 hk d 29999 m
noncomputable def r_Scene_exchange_0 (k : Nat) (d n : Nat) (a1 : Int32) (a2 : Int32) (m : am_M) : am_R := am_run am_G true (am_c d) 0 pg_Scene_exchange [] n 0 [some (.ref k), some (.int a1), some (.int a2), none] m
set_option maxRecDepth 100000 in
theorem e_Scene_exchange_0 {k : Nat} (hk : sc_k k) (d n : Nat) (a1 : Int32) (a2 : Int32) (m : am_M) : r_Scene_exchange_0 k d (n + 1) a1 a2 m = (am_b (am_oi a1 5) none (am_b (am_oi a2 5) none (am_b (am_oi a1 5) none (am_b (am_oi a2 5) none (some (none, (am_w (am_w m.1 (k + 1) a1.toNatClampNeg (m.1 (k + 1) a2.toNatClampNeg)) (k + 1) a2.toNatClampNeg (m.1 (k + 1) a1.toNatClampNeg), m.2))))))) := by
  rcases hk with rfl | rfl | rfl | rfl | rfl <;> rfl
set_option maxRecDepth 100000 in
theorem n_Scene_exchange {k : Nat} (hk : sc_k k) (d : Nat) (a1 : Int32) (a2 : Int32) (m : am_M) : am_c (d + 1) y_Scene_exchange [.ref k, .int a1, .int a2] m = (am_b (am_oi a1 5) none (am_b (am_oi a2 5) none (am_b (am_oi a1 5) none (am_b (am_oi a2 5) none (some (none, (am_w (am_w m.1 (k + 1) a1.toNatClampNeg (m.1 (k + 1) a2.toNatClampNeg)) (k + 1) a2.toNatClampNeg (m.1 (k + 1) a1.toNatClampNeg), m.2))))))) := by
  have h : am_c (d + 1) y_Scene_exchange [.ref k, .int a1, .int a2] m = r_Scene_exchange_0 k d fu a1 a2 m := by
    rcases hk with rfl | rfl | rfl | rfl | rfl <;> rfl
  rw [h, fu_eq]; exact e_Scene_exchange_0 hk d 29999 a1 a2 m
noncomputable def r_Scene_bringToWall_0 (k : Nat) (d n : Nat) (a1 : Int32) (m : am_M) : am_R := am_run am_G true (am_c d) 0 pg_Scene_bringToWall [] n 0 [some (.ref k), some (.int a1)] m
set_option maxRecDepth 100000 in
theorem e_Scene_bringToWall_0 {k : Nat} (hk : sc_k k) (d n : Nat) (a1 : Int32) (m : am_M) : r_Scene_bringToWall_0 k d (n + 1) a1 m = (am_b (am_le (zn 5) (m.1 k 3)) (am_b (am_oi a1 5) none (some (none, (am_w m.1 (k + 1) a1.toNatClampNeg zm, m.2)))) (am_b (am_oi a1 5) none (am_b (am_oi (m.1 k 3) 5) none (am_b (am_oi a1 5) none (some (none, (am_w (am_w (am_w m.1 (k + 2) ((m.1 k 3).toNatClampNeg) (m.1 (k + 1) a1.toNatClampNeg)) k 3 ((m.1 k 3) + (zn 1))) (k + 1) a1.toNatClampNeg zm, m.2))))))) := by
  rcases hk with rfl | rfl | rfl | rfl | rfl <;> rfl
set_option maxRecDepth 100000 in
theorem n_Scene_bringToWall {k : Nat} (hk : sc_k k) (d : Nat) (a1 : Int32) (m : am_M) : am_c (d + 1) y_Scene_bringToWall [.ref k, .int a1] m = (am_b (am_le (zn 5) (m.1 k 3)) (am_b (am_oi a1 5) none (some (none, (am_w m.1 (k + 1) a1.toNatClampNeg zm, m.2)))) (am_b (am_oi a1 5) none (am_b (am_oi (m.1 k 3) 5) none (am_b (am_oi a1 5) none (some (none, (am_w (am_w (am_w m.1 (k + 2) ((m.1 k 3).toNatClampNeg) (m.1 (k + 1) a1.toNatClampNeg)) k 3 ((m.1 k 3) + (zn 1))) (k + 1) a1.toNatClampNeg zm, m.2))))))) := by
  have h : am_c (d + 1) y_Scene_bringToWall [.ref k, .int a1] m = r_Scene_bringToWall_0 k d fu a1 m := by
    rcases hk with rfl | rfl | rfl | rfl | rfl <;> rfl
  rw [h, fu_eq]; exact e_Scene_bringToWall_0 hk d 29999 a1 m
noncomputable def r_Scene_takeFromWall_0 (k : Nat) (d n : Nat) (a1 : Int32) (m : am_M) : am_R := am_run am_G true (am_c d) 1 pg_Scene_takeFromWall [33] n 0 [some (.ref k), some (.int a1), none, none] m
noncomputable def r_Scene_takeFromWall_33 (k : Nat) (d n : Nat) (x1 : Int32) (x2 : Int32) (x3 : Int32) (m : am_M) : am_R := am_run am_G true (am_c d) 1 pg_Scene_takeFromWall [33] n 33 [some (.ref k), some (.int x1), some (.int x2), some (.int x3)] m
set_option maxRecDepth 100000 in
theorem e_Scene_takeFromWall_0 {k : Nat} (hk : sc_k k) (d n : Nat) (a1 : Int32) (m : am_M) : r_Scene_takeFromWall_0 k d (n + 1) a1 m = (am_b (am_lt a1 (zn 0)) (some (some (.int zm), m)) (am_b (am_lt a1 (m.1 k 3)) (am_b (am_oi a1 5) none (r_Scene_takeFromWall_33 k d n a1 (m.1 (k + 2) a1.toNatClampNeg) a1 (am_w m.1 k 3 ((m.1 k 3) - (zn 1)), m.2))) (some (some (.int zm), m)))) := by
  rcases hk with rfl | rfl | rfl | rfl | rfl <;> rfl
set_option maxRecDepth 100000 in
theorem e_Scene_takeFromWall_33 {k : Nat} (hk : sc_k k) (d n : Nat) (x1 : Int32) (x2 : Int32) (x3 : Int32) (m : am_M) : r_Scene_takeFromWall_33 k d (n + 1) x1 x2 x3 m = (am_b (am_le (m.1 k 3) x3) (some (some (.int x2), m)) (am_b (am_oi (x3 + (zn 1)) 5) none (am_b (am_oi x3 5) none (r_Scene_takeFromWall_33 k d n x1 x2 (x3 + (zn 1)) (am_w m.1 (k + 2) x3.toNatClampNeg (m.1 (k + 2) ((x3 + (zn 1)).toNatClampNeg)), m.2))))) := by
  rcases hk with rfl | rfl | rfl | rfl | rfl <;> rfl
set_option maxRecDepth 100000 in
theorem n_Scene_takeFromWall {k : Nat} (hk : sc_k k) (d : Nat) (a1 : Int32) (m : am_M) : am_c (d + 1) y_Scene_takeFromWall [.ref k, .int a1] m = (am_b (am_lt a1 (zn 0)) (some (some (.int zm), m)) (am_b (am_lt a1 (m.1 k 3)) (am_b (am_oi a1 5) none (r_Scene_takeFromWall_33 k d 29999 a1 (m.1 (k + 2) a1.toNatClampNeg) a1 (am_w m.1 k 3 ((m.1 k 3) - (zn 1)), m.2))) (some (some (.int zm), m)))) := by
  have h : am_c (d + 1) y_Scene_takeFromWall [.ref k, .int a1] m = r_Scene_takeFromWall_0 k d fu a1 m := by
    rcases hk with rfl | rfl | rfl | rfl | rfl <;> rfl
  rw [h, fu_eq]; exact e_Scene_takeFromWall_0 hk d 29999 a1 m
noncomputable def r_Scene_turnOf_0 (k : Nat) (d n : Nat) (a1 : Int32) (m : am_M) : am_R := am_run am_G true (am_c d) 1 pg_Scene_turnOf [2] n 0 [some (.ref k), some (.int a1), none] m
noncomputable def r_Scene_turnOf_2 (k : Nat) (d n : Nat) (x1 : Int32) (x2 : Int32) (m : am_M) : am_R := am_run am_G true (am_c d) 1 pg_Scene_turnOf [2] n 2 [some (.ref k), some (.int x1), some (.int x2)] m
set_option maxRecDepth 100000 in
theorem e_Scene_turnOf_0 {k : Nat} (hk : sc_k k) (d n : Nat) (a1 : Int32) (m : am_M) : r_Scene_turnOf_0 k d (n + 1) a1 m = (r_Scene_turnOf_2 k d n a1 (zn 0) m) := by
  rcases hk with rfl | rfl | rfl | rfl | rfl <;> rfl
set_option maxRecDepth 100000 in
theorem e_Scene_turnOf_2 {k : Nat} (hk : sc_k k) (d n : Nat) (x1 : Int32) (x2 : Int32) (m : am_M) : r_Scene_turnOf_2 k d (n + 1) x1 x2 m = (am_b (am_le (m.1 k 6) x2) (some (some (.int zm), m)) (am_b (am_oi x2 5) none (am_b (am_eq (m.1 (k + 4) x2.toNatClampNeg) x1) (some (some (.int x2), m)) (r_Scene_turnOf_2 k d n x1 (x2 + (zn 1)) m)))) := by
  rcases hk with rfl | rfl | rfl | rfl | rfl <;> rfl
set_option maxRecDepth 100000 in
theorem n_Scene_turnOf {k : Nat} (hk : sc_k k) (d : Nat) (a1 : Int32) (m : am_M) : am_c (d + 1) y_Scene_turnOf [.ref k, .int a1] m = (r_Scene_turnOf_2 k d 29999 a1 (zn 0) m) := by
  have h : am_c (d + 1) y_Scene_turnOf [.ref k, .int a1] m = r_Scene_turnOf_0 k d fu a1 m := by
    rcases hk with rfl | rfl | rfl | rfl | rfl <;> rfl
  rw [h, fu_eq]; exact e_Scene_turnOf_0 hk d 29999 a1 m
noncomputable def r_Scene_addMeeting_0 (k : Nat) (d n : Nat) (a1 : Int32) (a2 : Int32) (a3 : Int32) (m : am_M) : am_R := am_run am_G true (am_c d) 0 pg_Scene_addMeeting [28] n 0 [some (.ref k), some (.int a1), some (.int a2), some (.int a3), none] m
noncomputable def r_Scene_addMeeting_28 (k : Nat) (d n : Nat) (x1 : Int32) (x2 : Int32) (x3 : Int32) (x4 : Int32) (m : am_M) : am_R := am_run am_G true (am_c d) 0 pg_Scene_addMeeting [28] n 28 [some (.ref k), some (.int x1), some (.int x2), some (.int x3), some (.int x4)] m
set_option maxRecDepth 100000 in
theorem e_Scene_addMeeting_0 {k : Nat} (hk : sc_k k) (d n : Nat) (a1 : Int32) (a2 : Int32) (a3 : Int32) (m : am_M) : r_Scene_addMeeting_0 k d (n + 1) a1 a2 a3 m = (am_b (am_lt a1 (zn 0)) (some (none, m)) (am_b (am_lt (m.1 k 9) a1) (some (none, m)) (am_b (am_lt (m.1 k 9) (zn 10)) (r_Scene_addMeeting_28 k d n a1 a2 a3 (m.1 k 9) m) (some (none, m))))) := by
  rcases hk with rfl | rfl | rfl | rfl | rfl <;> rfl
set_option maxRecDepth 100000 in
theorem e_Scene_addMeeting_28 {k : Nat} (hk : sc_k k) (d n : Nat) (x1 : Int32) (x2 : Int32) (x3 : Int32) (x4 : Int32) (m : am_M) : r_Scene_addMeeting_28 k d (n + 1) x1 x2 x3 x4 m = (am_b (am_le x4 x1) (am_b (am_oi x1 10) none (am_b (am_oi x1 10) none (some (none, (am_w (am_w (am_w m.1 (k + 5) x1.toNatClampNeg x2) (k + 6) x1.toNatClampNeg x3) k 9 ((m.1 k 9) + (zn 1)), m.2))))) (am_b (am_oi (x4 - (zn 1)) 10) none (am_b (am_oi x4 10) none (am_b (am_oi (x4 - (zn 1)) 10) none (am_b (am_oi x4 10) none (r_Scene_addMeeting_28 k d n x1 x2 x3 (x4 + zm) (am_w (am_w m.1 (k + 5) x4.toNatClampNeg (m.1 (k + 5) ((x4 - (zn 1)).toNatClampNeg))) (k + 6) x4.toNatClampNeg (m.1 (k + 6) ((x4 - (zn 1)).toNatClampNeg)), m.2))))))) := by
  rcases hk with rfl | rfl | rfl | rfl | rfl <;> rfl
set_option maxRecDepth 100000 in
theorem n_Scene_addMeeting {k : Nat} (hk : sc_k k) (d : Nat) (a1 : Int32) (a2 : Int32) (a3 : Int32) (m : am_M) : am_c (d + 1) y_Scene_addMeeting [.ref k, .int a1, .int a2, .int a3] m = (am_b (am_lt a1 (zn 0)) (some (none, m)) (am_b (am_lt (m.1 k 9) a1) (some (none, m)) (am_b (am_lt (m.1 k 9) (zn 10)) (r_Scene_addMeeting_28 k d 29999 a1 a2 a3 (m.1 k 9) m) (some (none, m))))) := by
  have h : am_c (d + 1) y_Scene_addMeeting [.ref k, .int a1, .int a2, .int a3] m = r_Scene_addMeeting_0 k d fu a1 a2 a3 m := by
    rcases hk with rfl | rfl | rfl | rfl | rfl <;> rfl
  rw [h, fu_eq]; exact e_Scene_addMeeting_0 hk d 29999 a1 a2 a3 m
noncomputable def r_Scene_removeMeeting_0 (k : Nat) (d n : Nat) (a1 : Int32) (m : am_M) : am_R := am_run am_G true (am_c d) 0 pg_Scene_removeMeeting [25] n 0 [some (.ref k), some (.int a1), none] m
noncomputable def r_Scene_removeMeeting_25 (k : Nat) (d n : Nat) (x1 : Int32) (x2 : Int32) (m : am_M) : am_R := am_run am_G true (am_c d) 0 pg_Scene_removeMeeting [25] n 25 [some (.ref k), some (.int x1), some (.int x2)] m
set_option maxRecDepth 100000 in
theorem e_Scene_removeMeeting_0 {k : Nat} (hk : sc_k k) (d n : Nat) (a1 : Int32) (m : am_M) : r_Scene_removeMeeting_0 k d (n + 1) a1 m = (am_b (am_lt a1 (zn 0)) (some (none, m)) (am_b (am_lt a1 (m.1 k 9)) (r_Scene_removeMeeting_25 k d n a1 a1 (am_w m.1 k 9 ((m.1 k 9) - (zn 1)), m.2)) (some (none, m)))) := by
  rcases hk with rfl | rfl | rfl | rfl | rfl <;> rfl
set_option maxRecDepth 100000 in
theorem e_Scene_removeMeeting_25 {k : Nat} (hk : sc_k k) (d n : Nat) (x1 : Int32) (x2 : Int32) (m : am_M) : r_Scene_removeMeeting_25 k d (n + 1) x1 x2 m = (am_b (am_le (m.1 k 9) x2) (some (none, m)) (am_b (am_oi (x2 + (zn 1)) 10) none (am_b (am_oi x2 10) none (am_b (am_oi (x2 + (zn 1)) 10) none (am_b (am_oi x2 10) none (r_Scene_removeMeeting_25 k d n x1 (x2 + (zn 1)) (am_w (am_w m.1 (k + 5) x2.toNatClampNeg (m.1 (k + 5) ((x2 + (zn 1)).toNatClampNeg))) (k + 6) x2.toNatClampNeg (m.1 (k + 6) ((x2 + (zn 1)).toNatClampNeg)), m.2))))))) := by
  rcases hk with rfl | rfl | rfl | rfl | rfl <;> rfl
set_option maxRecDepth 100000 in
theorem n_Scene_removeMeeting {k : Nat} (hk : sc_k k) (d : Nat) (a1 : Int32) (m : am_M) : am_c (d + 1) y_Scene_removeMeeting [.ref k, .int a1] m = (am_b (am_lt a1 (zn 0)) (some (none, m)) (am_b (am_lt a1 (m.1 k 9)) (r_Scene_removeMeeting_25 k d 29999 a1 a1 (am_w m.1 k 9 ((m.1 k 9) - (zn 1)), m.2)) (some (none, m)))) := by
  have h : am_c (d + 1) y_Scene_removeMeeting [.ref k, .int a1] m = r_Scene_removeMeeting_0 k d fu a1 m := by
    rcases hk with rfl | rfl | rfl | rfl | rfl <;> rfl
  rw [h, fu_eq]; exact e_Scene_removeMeeting_0 hk d 29999 a1 m
noncomputable def r_Swapper_stateOf_0 (k : Nat) (d n : Nat) (m : am_M) : am_R := am_run am_G true (am_c d) 1 pg_Swapper_stateOf [4] n 0 [some (.ref k), none, none] m
noncomputable def r_Swapper_stateOf_4 (k : Nat) (d n : Nat) (x1 : Int32) (x2 : Int32) (m : am_M) : am_R := am_run am_G true (am_c d) 1 pg_Swapper_stateOf [4] n 4 [some (.ref k), some (.int x1), some (.int x2)] m
set_option maxRecDepth 100000 in
theorem e_Swapper_stateOf_0 {k : Nat} (hk : sc_k k) (d n : Nat) (m : am_M) : r_Swapper_stateOf_0 k d (n + 1) m = (r_Swapper_stateOf_4 k d n (zn 0) (zn 0) m) := by
  rcases hk with rfl | rfl | rfl | rfl | rfl <;> rfl
set_option maxRecDepth 100000 in
theorem e_Swapper_stateOf_4 {k : Nat} (hk : sc_k k) (d n : Nat) (x1 : Int32) (x2 : Int32) (m : am_M) : r_Swapper_stateOf_4 k d (n + 1) x1 x2 m = (am_b (am_le (m.1 k 0) x2) (some (some (.int x1), m)) (am_b (am_oi x2 5) none (r_Swapper_stateOf_4 k d n (x1 ||| (((m.1 (k + 1) x2.toNatClampNeg) + (zn 1)) <<< (((zn 3) * x2) &&& 31))) (x2 + (zn 1)) m))) := by
  rcases hk with rfl | rfl | rfl | rfl | rfl <;> rfl
set_option maxRecDepth 100000 in
theorem n_Swapper_stateOf {k : Nat} (hk : sc_k k) (d : Nat) (m : am_M) : am_c (d + 1) y_Swapper_stateOf [.ref k] m = (r_Swapper_stateOf_4 k d 29999 (zn 0) (zn 0) m) := by
  have h : am_c (d + 1) y_Swapper_stateOf [.ref k] m = r_Swapper_stateOf_0 k d fu m := by
    rcases hk with rfl | rfl | rfl | rfl | rfl <;> rfl
  rw [h, fu_eq]; exact e_Swapper_stateOf_0 hk d 29999 m
noncomputable def r_Swapper_goalOf_0 (k : Nat) (d n : Nat) (m : am_M) : am_R := am_run am_G true (am_c d) 1 pg_Swapper_goalOf [4] n 0 [some (.ref k), none, none, none] m
noncomputable def r_Swapper_goalOf_4 (k : Nat) (d n : Nat) (x1 : Int32) (x2 : Int32) (x3 : Option Value) (m : am_M) : am_R := am_run am_G true (am_c d) 1 pg_Swapper_goalOf [4] n 4 [some (.ref k), some (.int x1), some (.int x2), x3] m
set_option maxRecDepth 100000 in
theorem e_Swapper_goalOf_0 {k : Nat} (hk : sc_k k) (d n : Nat) (m : am_M) : r_Swapper_goalOf_0 k d (n + 1) m = (r_Swapper_goalOf_4 k d n (zn 0) (zn 0) none m) := by
  rcases hk with rfl | rfl | rfl | rfl | rfl <;> rfl
set_option maxRecDepth 100000 in
theorem e_Swapper_goalOf_4 {k : Nat} (hk : sc_k k) (d n : Nat) (x1 : Int32) (x2 : Int32) (x3 : Option Value) (m : am_M) : r_Swapper_goalOf_4 k d (n + 1) x1 x2 x3 m = (am_b (am_le (m.1 k 0) x2) (some (some (.int x1), m)) (am_b (am_oi x2 5) none (am_b (am_eq (m.1 (k + 1) x2.toNatClampNeg) zm) (r_Swapper_goalOf_4 k d n x1 (x2 + (zn 1)) (some (.int (m.1 (k + 1) x2.toNatClampNeg))) m) (r_Swapper_goalOf_4 k d n (x1 ||| (((m.1 (k + 1) x2.toNatClampNeg) + (zn 1)) <<< (((zn 3) * (m.1 (k + 1) x2.toNatClampNeg)) &&& 31))) (x2 + (zn 1)) (some (.int (m.1 (k + 1) x2.toNatClampNeg))) m)))) := by
  rcases hk with rfl | rfl | rfl | rfl | rfl <;> rfl
set_option maxRecDepth 100000 in
theorem n_Swapper_goalOf {k : Nat} (hk : sc_k k) (d : Nat) (m : am_M) : am_c (d + 1) y_Swapper_goalOf [.ref k] m = (r_Swapper_goalOf_4 k d 29999 (zn 0) (zn 0) none m) := by
  have h : am_c (d + 1) y_Swapper_goalOf [.ref k] m = r_Swapper_goalOf_0 k d fu m := by
    rcases hk with rfl | rfl | rfl | rfl | rfl <;> rfl
  rw [h, fu_eq]; exact e_Swapper_goalOf_0 hk d 29999 m
noncomputable def r_Swapper_swapped_0 (d n : Nat) (a0 : Int32) (a1 : Int32) (a2 : Int32) (m : am_M) : am_R := am_run am_G true (am_c d) 1 pg_Swapper_swapped [] n 0 [some (.int a0), some (.int a1), some (.int a2), none] m
set_option maxRecDepth 100000 in
theorem e_Swapper_swapped_0 (d n : Nat) (a0 : Int32) (a1 : Int32) (a2 : Int32) (m : am_M) : r_Swapper_swapped_0 d (n + 1) a0 a1 a2 m = (some (some (.int ((a0 ^^^ ((((a0 >>> (((zn 3) * a1) &&& 31)) ^^^ (a0 >>> (((zn 3) * a2) &&& 31))) &&& (zn 7)) <<< (((zn 3) * a1) &&& 31))) ^^^ ((((a0 >>> (((zn 3) * a1) &&& 31)) ^^^ (a0 >>> (((zn 3) * a2) &&& 31))) &&& (zn 7)) <<< (((zn 3) * a2) &&& 31)))), m)) := rfl
set_option maxRecDepth 100000 in
theorem n_Swapper_swapped (d : Nat) (a0 : Int32) (a1 : Int32) (a2 : Int32) (m : am_M) : am_c (d + 1) y_Swapper_swapped [.int a0, .int a1, .int a2] m = (some (some (.int ((a0 ^^^ ((((a0 >>> (((zn 3) * a1) &&& 31)) ^^^ (a0 >>> (((zn 3) * a2) &&& 31))) &&& (zn 7)) <<< (((zn 3) * a1) &&& 31))) ^^^ ((((a0 >>> (((zn 3) * a1) &&& 31)) ^^^ (a0 >>> (((zn 3) * a2) &&& 31))) &&& (zn 7)) <<< (((zn 3) * a2) &&& 31)))), m)) := by
  have h : am_c (d + 1) y_Swapper_swapped [.int a0, .int a1, .int a2] m = r_Swapper_swapped_0 d fu a0 a1 a2 m := by
    rfl
  rw [h, fu_eq]; exact e_Swapper_swapped_0 d 29999 a0 a1 a2 m
noncomputable def r_Swapper_reach_0 (d n : Nat) (a1 : Int32) (a2 : Int32) (a3 : Int32) (m : am_M) : am_R := am_run am_G true (am_c d) 0 pg_Swapper_reach [3] n 0 [some (.ref 92), some (.int a1), some (.int a2), some (.int a3), none] m
noncomputable def r_Swapper_reach_3 (d n : Nat) (x1 : Int32) (x2 : Int32) (x3 : Int32) (x4 : Int32) (m : am_M) : am_R := am_run am_G true (am_c d) 0 pg_Swapper_reach [3] n 3 [some (.ref 92), some (.int x1), some (.int x2), some (.int x3), some (.int x4)] m
set_option maxRecDepth 100000 in
theorem e_Swapper_reach_0 (d n : Nat) (a1 : Int32) (a2 : Int32) (a3 : Int32) (m : am_M) : r_Swapper_reach_0 d (n + 1) a1 a2 a3 m = (r_Swapper_reach_3 d n a1 a2 a3 (zn 0) m) := rfl
set_option maxRecDepth 100000 in
theorem e_Swapper_reach_3 (d n : Nat) (x1 : Int32) (x2 : Int32) (x3 : Int32) (x4 : Int32) (m : am_M) : r_Swapper_reach_3 d (n + 1) x1 x2 x3 x4 m = (am_b (am_le (m.1 92 4) x4) (am_b (am_le (zn 120) (m.1 92 4)) (some (none, m)) (am_b (am_oi (m.1 92 4) 120) none (am_b (am_oi (m.1 92 4) 120) none (am_b (am_oi (m.1 92 4) 120) none (some (none, (am_w (am_w (am_w (am_w m.1 93 ((m.1 92 4).toNatClampNeg) x1) 94 ((m.1 92 4).toNatClampNeg) x2) 95 ((m.1 92 4).toNatClampNeg) x3) 92 4 ((m.1 92 4) + (zn 1)), m.2))))))) (am_b (am_oi x4 120) none (am_b (am_eq (m.1 93 x4.toNatClampNeg) x1) (some (none, m)) (r_Swapper_reach_3 d n x1 x2 x3 (x4 + (zn 1)) m)))) := rfl
set_option maxRecDepth 100000 in
theorem n_Swapper_reach (d : Nat) (a1 : Int32) (a2 : Int32) (a3 : Int32) (m : am_M) : am_c (d + 1) y_Swapper_reach [.ref 92, .int a1, .int a2, .int a3] m = (r_Swapper_reach_3 d 29999 a1 a2 a3 (zn 0) m) := by
  have h : am_c (d + 1) y_Swapper_reach [.ref 92, .int a1, .int a2, .int a3] m = r_Swapper_reach_0 d fu a1 a2 a3 m := by
    rfl
  rw [h, fu_eq]; exact e_Swapper_reach_0 d 29999 a1 a2 a3 m
noncomputable def r_Swapper_traceBack_0 (d n : Nat) (a1 : Int32) (m : am_M) : am_R := am_run am_G true (am_c d) 1 pg_Swapper_traceBack [4,32] n 0 [some (.ref 92), some (.int a1), none, none, none] m
noncomputable def r_Swapper_traceBack_4 (d n : Nat) (x1 : Int32) (x2 : Int32) (x3 : Int32) (m : am_M) : am_R := am_run am_G true (am_c d) 1 pg_Swapper_traceBack [4,32] n 4 [some (.ref 92), some (.int x1), some (.int x2), some (.int x3), none] m
noncomputable def r_Swapper_traceBack_32 (d n : Nat) (x1 : Int32) (x2 : Int32) (x3 : Int32) (x4 : Int32) (m : am_M) : am_R := am_run am_G true (am_c d) 1 pg_Swapper_traceBack [4,32] n 32 [some (.ref 92), some (.int x1), some (.int x2), some (.int x3), some (.int x4)] m
set_option maxRecDepth 100000 in
theorem e_Swapper_traceBack_0 (d n : Nat) (a1 : Int32) (m : am_M) : r_Swapper_traceBack_0 d (n + 1) a1 m = (r_Swapper_traceBack_4 d n a1 (zn 0) a1 m) := rfl
set_option maxRecDepth 100000 in
theorem e_Swapper_traceBack_4 (d n : Nat) (x1 : Int32) (x2 : Int32) (x3 : Int32) (m : am_M) : r_Swapper_traceBack_4 d (n + 1) x1 x2 x3 m = (am_b (am_le x3 (zn 0)) (r_Swapper_traceBack_32 d n x1 x2 x2 x1 m) (am_b (am_le (zn 120) x2) (r_Swapper_traceBack_32 d n x1 x2 x2 x1 m) (am_b (am_oi x3 120) none (r_Swapper_traceBack_4 d n x1 (x2 + (zn 1)) (m.1 94 x3.toNatClampNeg) m)))) := rfl
set_option maxRecDepth 100000 in
theorem n_Swapper_traceBack (d : Nat) (a1 : Int32) (m : am_M) : am_c (d + 1) y_Swapper_traceBack [.ref 92, .int a1] m = (r_Swapper_traceBack_4 d 29999 a1 (zn 0) a1 m) := by
  have h : am_c (d + 1) y_Swapper_traceBack [.ref 92, .int a1] m = r_Swapper_traceBack_0 d fu a1 m := by
    rfl
  rw [h, fu_eq]; exact e_Swapper_traceBack_0 d 29999 a1 m
noncomputable def r_Told_thingNamed_27_0 (d n : Nat) (a1 : Int32) (m : am_M) : am_R := am_run am_G true (am_c d) 1 pg_Told_thingNamed [2] n 0 [some (.ref 27), some (.int a1), none] m
noncomputable def r_Told_thingNamed_27_2 (d n : Nat) (x1 : Int32) (x2 : Int32) (m : am_M) : am_R := am_run am_G true (am_c d) 1 pg_Told_thingNamed [2] n 2 [some (.ref 27), some (.int x1), some (.int x2)] m
set_option maxRecDepth 100000 in
theorem e_Told_thingNamed_27_0 (d n : Nat) (a1 : Int32) (m : am_M) : r_Told_thingNamed_27_0 d (n + 1) a1 m = (r_Told_thingNamed_27_2 d n a1 (zn 0) m) := rfl
set_option maxRecDepth 100000 in
theorem e_Told_thingNamed_27_2 (d n : Nat) (x1 : Int32) (x2 : Int32) (m : am_M) : r_Told_thingNamed_27_2 d (n + 1) x1 x2 m = (am_b (am_le (m.1 27 0) x2) (some (some (.int zm), m)) (am_b (am_oi x2 5) none (am_b (am_eq (m.1 28 x2.toNatClampNeg) x1) (some (some (.int x2), m)) (r_Told_thingNamed_27_2 d n x1 (x2 + (zn 1)) m)))) := rfl
set_option maxRecDepth 100000 in
theorem n_Told_thingNamed_27 (d : Nat) (a1 : Int32) (m : am_M) : am_c (d + 1) y_Told_thingNamed [.ref 27, .int a1] m = (r_Told_thingNamed_27_2 d 29999 a1 (zn 0) m) := by
  have h : am_c (d + 1) y_Told_thingNamed [.ref 27, .int a1] m = r_Told_thingNamed_27_0 d fu a1 m := by
    rfl
  rw [h, fu_eq]; exact e_Told_thingNamed_27_0 d 29999 a1 m
noncomputable def r_Told_thingNamed_5_0 (d n : Nat) (a1 : Int32) (m : am_M) : am_R := am_run am_G true (am_c d) 1 pg_Told_thingNamed [2] n 0 [some (.ref 5), some (.int a1), none] m
noncomputable def r_Told_thingNamed_5_2 (d n : Nat) (x1 : Int32) (x2 : Int32) (m : am_M) : am_R := am_run am_G true (am_c d) 1 pg_Told_thingNamed [2] n 2 [some (.ref 5), some (.int x1), some (.int x2)] m
set_option maxRecDepth 100000 in
theorem e_Told_thingNamed_5_0 (d n : Nat) (a1 : Int32) (m : am_M) : r_Told_thingNamed_5_0 d (n + 1) a1 m = (r_Told_thingNamed_5_2 d n a1 (zn 0) m) := rfl
set_option maxRecDepth 100000 in
theorem e_Told_thingNamed_5_2 (d n : Nat) (x1 : Int32) (x2 : Int32) (m : am_M) : r_Told_thingNamed_5_2 d (n + 1) x1 x2 m = (am_b (am_le (m.1 5 0) x2) (some (some (.int zm), m)) (am_b (am_oi x2 5) none (am_b (am_eq (m.1 6 x2.toNatClampNeg) x1) (some (some (.int x2), m)) (r_Told_thingNamed_5_2 d n x1 (x2 + (zn 1)) m)))) := rfl
set_option maxRecDepth 100000 in
theorem n_Told_thingNamed_5 (d : Nat) (a1 : Int32) (m : am_M) : am_c (d + 1) y_Told_thingNamed [.ref 5, .int a1] m = (r_Told_thingNamed_5_2 d 29999 a1 (zn 0) m) := by
  have h : am_c (d + 1) y_Told_thingNamed [.ref 5, .int a1] m = r_Told_thingNamed_5_0 d fu a1 m := by
    rfl
  rw [h, fu_eq]; exact e_Told_thingNamed_5_0 d 29999 a1 m
noncomputable def r_Told_sizeOf_0 (d n : Nat) (a1 : Int32) (m : am_M) : am_R := am_run am_G true (am_c d) 1 pg_Told_sizeOf [] n 0 [some (.ref 27), some (.int a1)] m
set_option maxRecDepth 100000 in
theorem e_Told_sizeOf_0 (d n : Nat) (a1 : Int32) (m : am_M) : r_Told_sizeOf_0 d (n + 1) a1 m = (am_b (am_lt a1 (zn 0)) (some (some (.int (zn 0)), m)) (am_b (am_le (m.1 27 0) a1) (some (some (.int (zn 0)), m)) (am_b (am_oi a1 5) none (some (some (.int (m.1 30 a1.toNatClampNeg)), m))))) := rfl
set_option maxRecDepth 100000 in
theorem n_Told_sizeOf (d : Nat) (a1 : Int32) (m : am_M) : am_c (d + 1) y_Told_sizeOf [.ref 27, .int a1] m = (am_b (am_lt a1 (zn 0)) (some (some (.int (zn 0)), m)) (am_b (am_le (m.1 27 0) a1) (some (some (.int (zn 0)), m)) (am_b (am_oi a1 5) none (some (some (.int (m.1 30 a1.toNatClampNeg)), m))))) := by
  have h : am_c (d + 1) y_Told_sizeOf [.ref 27, .int a1] m = r_Told_sizeOf_0 d fu a1 m := by
    rfl
  rw [h, fu_eq]; exact e_Told_sizeOf_0 d 29999 a1 m
