noncomputable def r_M_wall_0 (d n : Nat) (a1 : Int32) (m : am_M) : am_R := am_run am_G true (am_c d) 1 pg_M_wall [] n 0 [some (.ref 107), some (.int a1)] m
set_option maxRecDepth 100000 in
theorem e_M_wall_0 (d n : Nat) (a1 : Int32) (m : am_M) : r_M_wall_0 d (n + 1) a1 m = (am_b (am_le (zn 0) a1) (am_b (am_lt a1 (m.1 134 0)) (am_b (am_oi a1 10) none (some (some (.int (m.1 133 a1.toNatClampNeg)), (am_w m.1 107 2 (zn 0), m.2)))) (some (some (.int zq), (am_w m.1 107 2 (zn 0), m.2)))) (some (some (.int zm), (am_w m.1 107 2 (zn 0), m.2)))) := rfl
set_option maxRecDepth 100000 in
theorem n_M_wall (d : Nat) (a1 : Int32) (m : am_M) : am_c (d + 1) y_M_wall [.ref 107, .int a1] m = (am_b (am_le (zn 0) a1) (am_b (am_lt a1 (m.1 134 0)) (am_b (am_oi a1 10) none (some (some (.int (m.1 133 a1.toNatClampNeg)), (am_w m.1 107 2 (zn 0), m.2)))) (some (some (.int zq), (am_w m.1 107 2 (zn 0), m.2)))) (some (some (.int zm), (am_w m.1 107 2 (zn 0), m.2)))) := by
  have h : am_c (d + 1) y_M_wall [.ref 107, .int a1] m = r_M_wall_0 d fu a1 m := by
    rfl
  rw [h, fu_eq]; exact e_M_wall_0 d 29999 a1 m
noncomputable def r_M_meetingOf_0 (d n : Nat) (a1 : Int32) (a2 : Int32) (m : am_M) : am_R := am_run am_G true (am_c d) 1 pg_M_meetingOf [2] n 0 [some (.ref 107), some (.int a1), some (.int a2), none] m
noncomputable def r_M_meetingOf_2 (d n : Nat) (x1 : Int32) (x2 : Int32) (x3 : Int32) (m : am_M) : am_R := am_run am_G true (am_c d) 1 pg_M_meetingOf [2] n 2 [some (.ref 107), some (.int x1), some (.int x2), some (.int x3)] m
set_option maxRecDepth 100000 in
theorem e_M_meetingOf_0 (d n : Nat) (a1 : Int32) (a2 : Int32) (m : am_M) : r_M_meetingOf_0 d (n + 1) a1 a2 m = (r_M_meetingOf_2 d n a1 a2 (zn 0) m) := rfl
set_option maxRecDepth 100000 in
theorem e_M_meetingOf_2 (d n : Nat) (x1 : Int32) (x2 : Int32) (x3 : Int32) (m : am_M) : r_M_meetingOf_2 d (n + 1) x1 x2 x3 m = (am_b (am_le (m.1 107 55) x3) (some (some (.int zm), m)) (am_b (am_oi x3 10) none (am_b (am_eq (m.1 138 x3.toNatClampNeg) x1) (am_b (am_oi x3 10) none (am_b (am_eq (m.1 139 x3.toNatClampNeg) x2) (some (some (.int x3), m)) (am_b (am_oi x3 10) none (am_b (am_eq (m.1 138 x3.toNatClampNeg) x2) (am_b (am_oi x3 10) none (am_b (am_eq (m.1 139 x3.toNatClampNeg) x1) (some (some (.int x3), m)) (r_M_meetingOf_2 d n x1 x2 (x3 + (zn 1)) m))) (r_M_meetingOf_2 d n x1 x2 (x3 + (zn 1)) m))))) (am_b (am_oi x3 10) none (am_b (am_eq (m.1 138 x3.toNatClampNeg) x2) (am_b (am_oi x3 10) none (am_b (am_eq (m.1 139 x3.toNatClampNeg) x1) (some (some (.int x3), m)) (r_M_meetingOf_2 d n x1 x2 (x3 + (zn 1)) m))) (r_M_meetingOf_2 d n x1 x2 (x3 + (zn 1)) m)))))) := rfl
set_option maxRecDepth 100000 in
theorem n_M_meetingOf (d : Nat) (a1 : Int32) (a2 : Int32) (m : am_M) : am_c (d + 1) y_M_meetingOf [.ref 107, .int a1, .int a2] m = (r_M_meetingOf_2 d 29999 a1 a2 (zn 0) m) := by
  have h : am_c (d + 1) y_M_meetingOf [.ref 107, .int a1, .int a2] m = r_M_meetingOf_0 d fu a1 a2 m := by
    rfl
  rw [h, fu_eq]; exact e_M_meetingOf_0 d 29999 a1 a2 m
noncomputable def r_M_powerOf_0 (d n : Nat) (a0 : Int32) (a1 : Int32) (m : am_M) : am_R := am_run am_G true (am_c d) 1 pg_M_powerOf [4] n 0 [some (.int a0), some (.int a1), none, none] m
noncomputable def r_M_powerOf_4 (d n : Nat) (x0 : Int32) (x1 : Int32) (x2 : Int32) (x3 : Int32) (m : am_M) : am_R := am_run am_G true (am_c d) 1 pg_M_powerOf [4] n 4 [some (.int x0), some (.int x1), some (.int x2), some (.int x3)] m
set_option maxRecDepth 100000 in
theorem e_M_powerOf_0 (d n : Nat) (a0 : Int32) (a1 : Int32) (m : am_M) : r_M_powerOf_0 d (n + 1) a0 a1 m = (r_M_powerOf_4 d n a0 a1 (zn 1) (zn 0) m) := rfl
set_option maxRecDepth 100000 in
theorem e_M_powerOf_4 (d n : Nat) (x0 : Int32) (x1 : Int32) (x2 : Int32) (x3 : Int32) (m : am_M) : r_M_powerOf_4 d (n + 1) x0 x1 x2 x3 m = (am_b (am_le x1 x3) (some (some (.int x2), m)) (r_M_powerOf_4 d n x0 x1 (x2 * x0) (x3 + (zn 1)) m)) := rfl
set_option maxRecDepth 100000 in
theorem n_M_powerOf (d : Nat) (a0 : Int32) (a1 : Int32) (m : am_M) : am_c (d + 1) y_M_powerOf [.int a0, .int a1] m = (r_M_powerOf_4 d 29999 a0 a1 (zn 1) (zn 0) m) := by
  have h : am_c (d + 1) y_M_powerOf [.int a0, .int a1] m = r_M_powerOf_0 d fu a0 a1 m := by
    rfl
  rw [h, fu_eq]; exact e_M_powerOf_0 d 29999 a0 a1 m
noncomputable def r_M_rowNow_0 (d n : Nat) (m : am_M) : am_R := am_run am_G true (am_c d) 1 pg_M_rowNow [4] n 0 [some (.ref 107), none, none] m
noncomputable def r_M_rowNow_4 (d n : Nat) (x1 : Int32) (x2 : Int32) (m : am_M) : am_R := am_run am_G true (am_c d) 1 pg_M_rowNow [4] n 4 [some (.ref 107), some (.int x1), some (.int x2)] m
set_option maxRecDepth 100000 in
theorem e_M_rowNow_0 (d n : Nat) (m : am_M) : r_M_rowNow_0 d (n + 1) m = (r_M_rowNow_4 d n (zn 0) (zn 0) m) := rfl
set_option maxRecDepth 100000 in
theorem e_M_rowNow_4 (d n : Nat) (x1 : Int32) (x2 : Int32) (m : am_M) : r_M_rowNow_4 d (n + 1) x1 x2 m = (am_b (am_le (zn 5) x2) (some (some (.int x1), m)) (am_b (am_oi x2 10) none (r_M_rowNow_4 d n ((((zn 6) * x1) + (m.1 132 x2.toNatClampNeg)) + (zn 1)) (x2 + (zn 1)) m))) := rfl
set_option maxRecDepth 100000 in
theorem n_M_rowNow (d : Nat) (m : am_M) : am_c (d + 1) y_M_rowNow [.ref 107] m = (r_M_rowNow_4 d 29999 (zn 0) (zn 0) m) := by
  have h : am_c (d + 1) y_M_rowNow [.ref 107] m = r_M_rowNow_0 d fu m := by
    rfl
  rw [h, fu_eq]; exact e_M_rowNow_0 d 29999 m
noncomputable def r_M_meetsRow_0 (d n : Nat) (a1 : Int32) (a2 : Int32) (a3 : Int32) (m : am_M) : am_R := am_run am_G true (am_c d) 0 pg_M_meetsRow [] n 0 [some (.ref 107), some (.int a1), some (.int a2), some (.int a3)] m
set_option maxRecDepth 100000 in
theorem e_M_meetsRow_0 (d n : Nat) (a1 : Int32) (a2 : Int32) (a3 : Int32) (m : am_M) : r_M_meetsRow_0 d (n + 1) a1 a2 a3 m = (am_b (am_oi a1 7776) none (am_b (am_eq (m.1 146 a1.toNatClampNeg) (zn 0)) (am_b (am_oi a1 7776) none (am_b (am_oi (m.1 107 75) 128) none (am_b (am_oi (m.1 107 75) 128) none (am_b (am_oi (m.1 107 75) 128) none (some (none, (am_w (am_w (am_w (am_w (am_w m.1 146 a1.toNatClampNeg (vp_nar .boolean (zn 1))) 143 ((m.1 107 75).toNatClampNeg) a1) 144 ((m.1 107 75).toNatClampNeg) a2) 145 ((m.1 107 75).toNatClampNeg) a3) 107 75 ((m.1 107 75) + (zn 1)), m.2))))))) (some (none, m)))) := rfl
set_option maxRecDepth 100000 in
theorem n_M_meetsRow (d : Nat) (a1 : Int32) (a2 : Int32) (a3 : Int32) (m : am_M) : am_c (d + 1) y_M_meetsRow [.ref 107, .int a1, .int a2, .int a3] m = (am_b (am_oi a1 7776) none (am_b (am_eq (m.1 146 a1.toNatClampNeg) (zn 0)) (am_b (am_oi a1 7776) none (am_b (am_oi (m.1 107 75) 128) none (am_b (am_oi (m.1 107 75) 128) none (am_b (am_oi (m.1 107 75) 128) none (some (none, (am_w (am_w (am_w (am_w (am_w m.1 146 a1.toNatClampNeg (vp_nar .boolean (zn 1))) 143 ((m.1 107 75).toNatClampNeg) a1) 144 ((m.1 107 75).toNatClampNeg) a2) 145 ((m.1 107 75).toNatClampNeg) a3) 107 75 ((m.1 107 75) + (zn 1)), m.2))))))) (some (none, m)))) := by
  have h : am_c (d + 1) y_M_meetsRow [.ref 107, .int a1, .int a2, .int a3] m = r_M_meetsRow_0 d fu a1 a2 a3 m := by
    rfl
  rw [h, fu_eq]; exact e_M_meetsRow_0 d 29999 a1 a2 a3 m
noncomputable def r_M_up_0 (d n : Nat) (a0 : Int32) (m : am_M) : am_R := am_run am_G true (am_c d) 1 pg_M_up [2,21] n 0 [some (.int a0), none] m
noncomputable def r_M_up_2 (d n : Nat) (x0 : Int32) (x1 : Int32) (m : am_M) : am_R := am_run am_G true (am_c d) 1 pg_M_up [2,21] n 2 [some (.int x0), some (.int x1)] m
noncomputable def r_M_up_21 (d n : Nat) (x0 : Int32) (x1 : Int32) (m : am_M) : am_R := am_run am_G true (am_c d) 1 pg_M_up [2,21] n 21 [some (.int x0), some (.int x1)] m
set_option maxRecDepth 100000 in
theorem e_M_up_0 (d n : Nat) (a0 : Int32) (m : am_M) : r_M_up_0 d (n + 1) a0 m = (r_M_up_2 d n a0 a0 m) := rfl
set_option maxRecDepth 100000 in
theorem e_M_up_2 (d n : Nat) (x0 : Int32) (x1 : Int32) (m : am_M) : r_M_up_2 d (n + 1) x0 x1 m = (am_b (am_le x1 (zn 0)) (r_M_up_21 d n x0 x1 m) (am_b (am_eq (x1 &&& (zn 448)) (zn 0)) (r_M_up_2 d n x0 (x1 <<< ((zn 3) &&& 31)) m) (r_M_up_21 d n x0 x1 m))) := rfl
set_option maxRecDepth 100000 in
theorem e_M_up_21 (d n : Nat) (x0 : Int32) (x1 : Int32) (m : am_M) : r_M_up_21 d (n + 1) x0 x1 m = (am_b (am_le x1 (zn 0)) (some (some (.int x1), m)) (am_b (am_eq (x1 &&& (zn 292)) (zn 0)) (r_M_up_21 d n x0 (x1 <<< ((zn 1) &&& 31)) m) (some (some (.int x1), m)))) := rfl
set_option maxRecDepth 100000 in
theorem n_M_up (d : Nat) (a0 : Int32) (m : am_M) : am_c (d + 1) y_M_up [.int a0] m = (r_M_up_2 d 29999 a0 a0 m) := by
  have h : am_c (d + 1) y_M_up [.int a0] m = r_M_up_0 d fu a0 m := by
    rfl
  rw [h, fu_eq]; exact e_M_up_0 d 29999 a0 m
noncomputable def r_M_mirrored_0 (d n : Nat) (a0 : Int32) (m : am_M) : am_R := am_run am_G true (am_c d) 1 pg_M_mirrored [] n 0 [some (.int a0)] m
set_option maxRecDepth 100000 in
theorem e_M_mirrored_0 (d n : Nat) (a0 : Int32) (m : am_M) : r_M_mirrored_0 d (n + 1) a0 m = (some (some (.int ((((a0 &&& (zn 73)) <<< ((zn 2) &&& 31)) ||| (a0 &&& (zn 146))) ||| ((a0 &&& (zn 292)) >>> ((zn 2) &&& 31)))), m)) := rfl
set_option maxRecDepth 100000 in
theorem n_M_mirrored (d : Nat) (a0 : Int32) (m : am_M) : am_c (d + 1) y_M_mirrored [.int a0] m = (some (some (.int ((((a0 &&& (zn 73)) <<< ((zn 2) &&& 31)) ||| (a0 &&& (zn 146))) ||| ((a0 &&& (zn 292)) >>> ((zn 2) &&& 31)))), m)) := by
  have h : am_c (d + 1) y_M_mirrored [.int a0] m = r_M_mirrored_0 d fu a0 m := by
    rfl
  rw [h, fu_eq]; exact e_M_mirrored_0 d 29999 a0 m
noncomputable def r_M_noted_0 (d n : Nat) (a1 : Int32) (a2 : Int32) (a3 : Int32) (m : am_M) : am_R := am_run am_G true (am_c d) 1 pg_M_noted [] n 0 [some (.ref 107), some (.int a1), some (.int a2), some (.int a3)] m
set_option maxRecDepth 100000 in
theorem e_M_noted_0 (d n : Nat) (a1 : Int32) (a2 : Int32) (a3 : Int32) (m : am_M) : r_M_noted_0 d (n + 1) a1 a2 a3 m = (am_b (am_oi ((zn 3) * (m.1 107 78)) 72) none (am_b (am_oi (((zn 3) * (m.1 107 78)) + (zn 1)) 72) none (am_b (am_oi (((zn 3) * (m.1 107 78)) + (zn 2)) 72) none (some (some (.int (((m.1 107 78) + (zn 1)) - (zn 1))), (am_w (am_w (am_w (am_w m.1 148 (((zn 3) * (m.1 107 78)).toNatClampNeg) a1) 148 ((((zn 3) * (m.1 107 78)) + (zn 1)).toNatClampNeg) a2) 148 ((((zn 3) * (m.1 107 78)) + (zn 2)).toNatClampNeg) a3) 107 78 ((m.1 107 78) + (zn 1)), m.2)))))) := rfl
set_option maxRecDepth 100000 in
theorem n_M_noted (d : Nat) (a1 : Int32) (a2 : Int32) (a3 : Int32) (m : am_M) : am_c (d + 1) y_M_noted [.ref 107, .int a1, .int a2, .int a3] m = (am_b (am_oi ((zn 3) * (m.1 107 78)) 72) none (am_b (am_oi (((zn 3) * (m.1 107 78)) + (zn 1)) 72) none (am_b (am_oi (((zn 3) * (m.1 107 78)) + (zn 2)) 72) none (some (some (.int (((m.1 107 78) + (zn 1)) - (zn 1))), (am_w (am_w (am_w (am_w m.1 148 (((zn 3) * (m.1 107 78)).toNatClampNeg) a1) 148 ((((zn 3) * (m.1 107 78)) + (zn 1)).toNatClampNeg) a2) 148 ((((zn 3) * (m.1 107 78)) + (zn 2)).toNatClampNeg) a3) 107 78 ((m.1 107 78) + (zn 1)), m.2)))))) := by
  have h : am_c (d + 1) y_M_noted [.ref 107, .int a1, .int a2, .int a3] m = r_M_noted_0 d fu a1 a2 a3 m := by
    rfl
  rw [h, fu_eq]; exact e_M_noted_0 d 29999 a1 a2 a3 m
noncomputable def r_M_knownBy_0 (d n : Nat) (m : am_M) : am_R := am_run am_G true (am_c d) 1 pg_M_knownBy [] n 0 [some (.ref 107)] m
set_option maxRecDepth 100000 in
theorem e_M_knownBy_0 (d n : Nat) (m : am_M) : r_M_knownBy_0 d (n + 1) m = (am_b (am_le (zn 0) (m.1 107 79)) (some (some (.int (m.1 107 79)), m)) (some (some (.int (m.1 107 78)), m))) := rfl
set_option maxRecDepth 100000 in
theorem n_M_knownBy (d : Nat) (m : am_M) : am_c (d + 1) y_M_knownBy [.ref 107] m = (am_b (am_le (zn 0) (m.1 107 79)) (some (some (.int (m.1 107 79)), m)) (some (some (.int (m.1 107 78)), m))) := by
  have h : am_c (d + 1) y_M_knownBy [.ref 107] m = r_M_knownBy_0 d fu m := by
    rfl
  rw [h, fu_eq]; exact e_M_knownBy_0 d 29999 m
noncomputable def r_M_keepsAll_0 (d n : Nat) (m : am_M) : am_R := am_run am_G true (am_c d) 0 pg_M_keepsAll [13] n 0 [some (.ref 107), none] m
noncomputable def r_M_keepsAll_13 (d n : Nat) (x1 : Int32) (m : am_M) : am_R := am_run am_G true (am_c d) 0 pg_M_keepsAll [13] n 13 [some (.ref 107), some (.int x1)] m
set_option maxRecDepth 100000 in
theorem e_M_keepsAll_0 (d n : Nat) (m : am_M) : r_M_keepsAll_0 d (n + 1) m = (r_M_keepsAll_13 d n (zn 0) (am_w m.1 150 30 (m.1 107 55), m.2)) := rfl
set_option maxRecDepth 100000 in
theorem e_M_keepsAll_13 (d n : Nat) (x1 : Int32) (m : am_M) : r_M_keepsAll_13 d (n + 1) x1 m = (am_b (am_le (zn 10) x1) (some (none, m)) (am_b (am_oi x1 10) none (am_b (am_oi x1 31) none (am_b (am_oi x1 10) none (am_b (am_oi ((zn 10) + x1) 31) none (am_b (am_le (zn 5) x1) (am_b (am_oi (x1 - (zn 5)) 10) none (am_b (am_oi ((zn 20) + x1) 31) none (r_M_keepsAll_13 d n (x1 + (zn 1)) (am_w (am_w (am_w m.1 150 x1.toNatClampNeg (m.1 138 x1.toNatClampNeg)) 150 (((zn 10) + x1).toNatClampNeg) (m.1 139 x1.toNatClampNeg)) 150 (((zn 20) + x1).toNatClampNeg) (m.1 137 ((x1 - (zn 5)).toNatClampNeg)), m.2)))) (am_b (am_oi x1 5) none (am_b (am_oi ((zn 20) + x1) 31) none (r_M_keepsAll_13 d n (x1 + (zn 1)) (am_w (am_w (am_w m.1 150 x1.toNatClampNeg (m.1 138 x1.toNatClampNeg)) 150 (((zn 10) + x1).toNatClampNeg) (m.1 139 x1.toNatClampNeg)) 150 (((zn 20) + x1).toNatClampNeg) (m.1 136 x1.toNatClampNeg), m.2)))))))))) := rfl
set_option maxRecDepth 100000 in
theorem n_M_keepsAll (d : Nat) (m : am_M) : am_c (d + 1) y_M_keepsAll [.ref 107] m = (r_M_keepsAll_13 d 29999 (zn 0) (am_w m.1 150 30 (m.1 107 55), m.2)) := by
  have h : am_c (d + 1) y_M_keepsAll [.ref 107] m = r_M_keepsAll_0 d fu m := by
    rfl
  rw [h, fu_eq]; exact e_M_keepsAll_0 d 29999 m
noncomputable def r_M_takesAll_0 (d n : Nat) (m : am_M) : am_R := am_run am_G true (am_c d) 0 pg_M_takesAll [13] n 0 [some (.ref 107), none] m
noncomputable def r_M_takesAll_13 (d n : Nat) (x1 : Int32) (m : am_M) : am_R := am_run am_G true (am_c d) 0 pg_M_takesAll [13] n 13 [some (.ref 107), some (.int x1)] m
set_option maxRecDepth 100000 in
theorem e_M_takesAll_0 (d n : Nat) (m : am_M) : r_M_takesAll_0 d (n + 1) m = (r_M_takesAll_13 d n (zn 0) (am_w m.1 107 55 (m.1 150 30), m.2)) := rfl
set_option maxRecDepth 100000 in
theorem e_M_takesAll_13 (d n : Nat) (x1 : Int32) (m : am_M) : r_M_takesAll_13 d (n + 1) x1 m = (am_b (am_le (zn 10) x1) (some (none, m)) (am_b (am_oi x1 31) none (am_b (am_oi x1 10) none (am_b (am_oi ((zn 10) + x1) 31) none (am_b (am_oi x1 10) none (am_b (am_le (zn 5) x1) (r_M_takesAll_13 d n (x1 + (zn 1)) (am_w (am_w m.1 138 x1.toNatClampNeg (m.1 150 x1.toNatClampNeg)) 139 x1.toNatClampNeg (m.1 150 (((zn 10) + x1).toNatClampNeg)), m.2)) (am_b (am_oi ((zn 20) + x1) 31) none (am_b (am_oi x1 5) none (am_b (am_oi ((zn 25) + x1) 31) none (am_b (am_oi x1 10) none (r_M_takesAll_13 d n (x1 + (zn 1)) (am_w (am_w (am_w (am_w m.1 138 x1.toNatClampNeg (m.1 150 x1.toNatClampNeg)) 139 x1.toNatClampNeg (m.1 150 (((zn 10) + x1).toNatClampNeg))) 136 x1.toNatClampNeg (m.1 150 (((zn 20) + x1).toNatClampNeg))) 137 x1.toNatClampNeg (m.1 150 (((zn 25) + x1).toNatClampNeg)), m.2)))))))))))) := rfl
set_option maxRecDepth 100000 in
theorem n_M_takesAll (d : Nat) (m : am_M) : am_c (d + 1) y_M_takesAll [.ref 107] m = (r_M_takesAll_13 d 29999 (zn 0) (am_w m.1 107 55 (m.1 150 30), m.2)) := by
  have h : am_c (d + 1) y_M_takesAll [.ref 107] m = r_M_takesAll_0 d fu m := by
    rfl
  rw [h, fu_eq]; exact e_M_takesAll_0 d 29999 m
noncomputable def r_M_common_0 (d n : Nat) (a0 : Int32) (a1 : Int32) (m : am_M) : am_R := am_run am_G true (am_c d) 1 pg_M_common [4] n 0 [some (.int a0), some (.int a1), none, none, none] m
noncomputable def r_M_common_4 (d n : Nat) (x0 : Int32) (x1 : Int32) (x2 : Int32) (x3 : Int32) (x4 : Option Value) (m : am_M) : am_R := am_run am_G true (am_c d) 1 pg_M_common [4] n 4 [some (.int x0), some (.int x1), some (.int x2), some (.int x3), x4] m
set_option maxRecDepth 100000 in
theorem e_M_common_0 (d n : Nat) (a0 : Int32) (a1 : Int32) (m : am_M) : r_M_common_0 d (n + 1) a0 a1 m = (r_M_common_4 d n a0 a1 a0 a1 none m) := rfl
set_option maxRecDepth 100000 in
theorem e_M_common_4 (d n : Nat) (x0 : Int32) (x1 : Int32) (x2 : Int32) (x3 : Int32) (x4 : Option Value) (m : am_M) : r_M_common_4 d (n + 1) x0 x1 x2 x3 x4 m = (am_b (am_eq x3 (zn 0)) (some (some (.int x2), m)) (am_b (am_eq x3 0) none (r_M_common_4 d n x0 x1 x3 (am_rem x2 x3) (some (.int (am_rem x2 x3))) m))) := rfl
set_option maxRecDepth 100000 in
theorem n_M_common (d : Nat) (a0 : Int32) (a1 : Int32) (m : am_M) : am_c (d + 1) y_M_common [.int a0, .int a1] m = (r_M_common_4 d 29999 a0 a1 a0 a1 none m) := by
  have h : am_c (d + 1) y_M_common [.int a0, .int a1] m = r_M_common_0 d fu a0 a1 m := by
    rfl
  rw [h, fu_eq]; exact e_M_common_0 d 29999 a0 a1 m
noncomputable def r_M_put_107_153_0 (d n : Nat) (a2 : Int32) (m : am_M) : am_R := am_run am_G true (am_c d) 0 pg_M_put [2,53] n 0 [some (.ref 107), some (.ref 153), some (.int a2), none] m
noncomputable def r_M_put_107_153_2 (d n : Nat) (x2 : Int32) (x3 : Int32) (m : am_M) : am_R := am_run am_G true (am_c d) 0 pg_M_put [2,53] n 2 [some (.ref 107), some (.ref 153), some (.int x2), some (.int x3)] m
noncomputable def r_M_put_107_153_53 (d n : Nat) (x2 : Int32) (x3 : Int32) (m : am_M) : am_R := am_run am_G true (am_c d) 0 pg_M_put [2,53] n 53 [some (.ref 107), some (.ref 153), some (.int x2), some (.int x3)] m
set_option maxRecDepth 100000 in
theorem e_M_put_107_153_0 (d n : Nat) (a2 : Int32) (m : am_M) : r_M_put_107_153_0 d (n + 1) a2 m = (r_M_put_107_153_2 d n a2 (zn 0) m) := rfl
set_option maxRecDepth 100000 in
theorem e_M_put_107_153_2 (d n : Nat) (x2 : Int32) (x3 : Int32) (m : am_M) : r_M_put_107_153_2 d (n + 1) x2 x3 m = (am_b (am_le (zn 5) x3) (r_M_put_107_153_53 d n x2 (zn 0) m) (am_b (am_oi x3 10) none (am_b (am_oi (x2 + x3) 720) none (am_b (am_oi x3 5) none (am_b (am_oi ((x2 + (zn 5)) + x3) 720) none (am_b (am_oi x3 10) none (am_b (am_oi ((x2 + (zn 10)) + x3) 720) none (r_M_put_107_153_2 d n x2 (x3 + (zn 1)) (am_w (am_w (am_w m.1 153 ((x2 + x3).toNatClampNeg) (m.1 132 x3.toNatClampNeg)) 153 (((x2 + (zn 5)) + x3).toNatClampNeg) (m.1 136 x3.toNatClampNeg)) 153 (((x2 + (zn 10)) + x3).toNatClampNeg) (m.1 137 x3.toNatClampNeg), m.2))))))))) := rfl
set_option maxRecDepth 100000 in
theorem e_M_put_107_153_53 (d n : Nat) (x2 : Int32) (x3 : Int32) (m : am_M) : r_M_put_107_153_53 d (n + 1) x2 x3 m = (am_b (am_le (zn 10) x3) (am_b (am_oi (x2 + (zn 35)) 720) none (some (none, (am_w m.1 153 ((x2 + (zn 35)).toNatClampNeg) (m.1 107 55), m.2)))) (am_b (am_oi x3 10) none (am_b (am_oi ((x2 + (zn 15)) + x3) 720) none (am_b (am_oi x3 10) none (am_b (am_oi ((x2 + (zn 25)) + x3) 720) none (r_M_put_107_153_53 d n x2 (x3 + (zn 1)) (am_w (am_w m.1 153 (((x2 + (zn 15)) + x3).toNatClampNeg) (m.1 138 x3.toNatClampNeg)) 153 (((x2 + (zn 25)) + x3).toNatClampNeg) (m.1 139 x3.toNatClampNeg), m.2))))))) := rfl
set_option maxRecDepth 100000 in
theorem n_M_put_107_153 (d : Nat) (a2 : Int32) (m : am_M) : am_c (d + 1) y_M_put [.ref 107, .ref 153, .int a2] m = (r_M_put_107_153_2 d 29999 a2 (zn 0) m) := by
  have h : am_c (d + 1) y_M_put [.ref 107, .ref 153, .int a2] m = r_M_put_107_153_0 d fu a2 m := by
    rfl
  rw [h, fu_eq]; exact e_M_put_107_153_0 d 29999 a2 m
noncomputable def r_M_put_107_154_0 (d n : Nat) (a2 : Int32) (m : am_M) : am_R := am_run am_G true (am_c d) 0 pg_M_put [2,53] n 0 [some (.ref 107), some (.ref 154), some (.int a2), none] m
noncomputable def r_M_put_107_154_2 (d n : Nat) (x2 : Int32) (x3 : Int32) (m : am_M) : am_R := am_run am_G true (am_c d) 0 pg_M_put [2,53] n 2 [some (.ref 107), some (.ref 154), some (.int x2), some (.int x3)] m
noncomputable def r_M_put_107_154_53 (d n : Nat) (x2 : Int32) (x3 : Int32) (m : am_M) : am_R := am_run am_G true (am_c d) 0 pg_M_put [2,53] n 53 [some (.ref 107), some (.ref 154), some (.int x2), some (.int x3)] m
set_option maxRecDepth 100000 in
theorem e_M_put_107_154_0 (d n : Nat) (a2 : Int32) (m : am_M) : r_M_put_107_154_0 d (n + 1) a2 m = (r_M_put_107_154_2 d n a2 (zn 0) m) := rfl
set_option maxRecDepth 100000 in
theorem e_M_put_107_154_2 (d n : Nat) (x2 : Int32) (x3 : Int32) (m : am_M) : r_M_put_107_154_2 d (n + 1) x2 x3 m = (am_b (am_le (zn 5) x3) (r_M_put_107_154_53 d n x2 (zn 0) m) (am_b (am_oi x3 10) none (am_b (am_oi (x2 + x3) 36) none (am_b (am_oi x3 5) none (am_b (am_oi ((x2 + (zn 5)) + x3) 36) none (am_b (am_oi x3 10) none (am_b (am_oi ((x2 + (zn 10)) + x3) 36) none (r_M_put_107_154_2 d n x2 (x3 + (zn 1)) (am_w (am_w (am_w m.1 154 ((x2 + x3).toNatClampNeg) (m.1 132 x3.toNatClampNeg)) 154 (((x2 + (zn 5)) + x3).toNatClampNeg) (m.1 136 x3.toNatClampNeg)) 154 (((x2 + (zn 10)) + x3).toNatClampNeg) (m.1 137 x3.toNatClampNeg), m.2))))))))) := rfl
set_option maxRecDepth 100000 in
theorem e_M_put_107_154_53 (d n : Nat) (x2 : Int32) (x3 : Int32) (m : am_M) : r_M_put_107_154_53 d (n + 1) x2 x3 m = (am_b (am_le (zn 10) x3) (am_b (am_oi (x2 + (zn 35)) 36) none (some (none, (am_w m.1 154 ((x2 + (zn 35)).toNatClampNeg) (m.1 107 55), m.2)))) (am_b (am_oi x3 10) none (am_b (am_oi ((x2 + (zn 15)) + x3) 36) none (am_b (am_oi x3 10) none (am_b (am_oi ((x2 + (zn 25)) + x3) 36) none (r_M_put_107_154_53 d n x2 (x3 + (zn 1)) (am_w (am_w m.1 154 (((x2 + (zn 15)) + x3).toNatClampNeg) (m.1 138 x3.toNatClampNeg)) 154 (((x2 + (zn 25)) + x3).toNatClampNeg) (m.1 139 x3.toNatClampNeg), m.2))))))) := rfl
set_option maxRecDepth 100000 in
theorem n_M_put_107_154 (d : Nat) (a2 : Int32) (m : am_M) : am_c (d + 1) y_M_put [.ref 107, .ref 154, .int a2] m = (r_M_put_107_154_2 d 29999 a2 (zn 0) m) := by
  have h : am_c (d + 1) y_M_put [.ref 107, .ref 154, .int a2] m = r_M_put_107_154_0 d fu a2 m := by
    rfl
  rw [h, fu_eq]; exact e_M_put_107_154_0 d 29999 a2 m
noncomputable def r_M_take_107_153_0 (d n : Nat) (a2 : Int32) (m : am_M) : am_R := am_run am_G true (am_c d) 0 pg_M_take [2,53] n 0 [some (.ref 107), some (.ref 153), some (.int a2), none] m
noncomputable def r_M_take_107_153_2 (d n : Nat) (x2 : Int32) (x3 : Int32) (m : am_M) : am_R := am_run am_G true (am_c d) 0 pg_M_take [2,53] n 2 [some (.ref 107), some (.ref 153), some (.int x2), some (.int x3)] m
noncomputable def r_M_take_107_153_53 (d n : Nat) (x2 : Int32) (x3 : Int32) (m : am_M) : am_R := am_run am_G true (am_c d) 0 pg_M_take [2,53] n 53 [some (.ref 107), some (.ref 153), some (.int x2), some (.int x3)] m
set_option maxRecDepth 100000 in
theorem e_M_take_107_153_0 (d n : Nat) (a2 : Int32) (m : am_M) : r_M_take_107_153_0 d (n + 1) a2 m = (r_M_take_107_153_2 d n a2 (zn 0) m) := rfl
set_option maxRecDepth 100000 in
theorem e_M_take_107_153_2 (d n : Nat) (x2 : Int32) (x3 : Int32) (m : am_M) : r_M_take_107_153_2 d (n + 1) x2 x3 m = (am_b (am_le (zn 5) x3) (r_M_take_107_153_53 d n x2 (zn 0) m) (am_b (am_oi (x2 + x3) 720) none (am_b (am_oi x3 10) none (am_b (am_oi ((x2 + (zn 5)) + x3) 720) none (am_b (am_oi x3 5) none (am_b (am_oi ((x2 + (zn 10)) + x3) 720) none (am_b (am_oi x3 10) none (r_M_take_107_153_2 d n x2 (x3 + (zn 1)) (am_w (am_w (am_w m.1 132 x3.toNatClampNeg (m.1 153 ((x2 + x3).toNatClampNeg))) 136 x3.toNatClampNeg (m.1 153 (((x2 + (zn 5)) + x3).toNatClampNeg))) 137 x3.toNatClampNeg (m.1 153 (((x2 + (zn 10)) + x3).toNatClampNeg)), m.2))))))))) := rfl
set_option maxRecDepth 100000 in
theorem e_M_take_107_153_53 (d n : Nat) (x2 : Int32) (x3 : Int32) (m : am_M) : r_M_take_107_153_53 d (n + 1) x2 x3 m = (am_b (am_le (zn 10) x3) (am_b (am_oi (x2 + (zn 35)) 720) none (some (none, (am_w m.1 107 55 (m.1 153 ((x2 + (zn 35)).toNatClampNeg)), m.2)))) (am_b (am_oi ((x2 + (zn 15)) + x3) 720) none (am_b (am_oi x3 10) none (am_b (am_oi ((x2 + (zn 25)) + x3) 720) none (am_b (am_oi x3 10) none (r_M_take_107_153_53 d n x2 (x3 + (zn 1)) (am_w (am_w m.1 138 x3.toNatClampNeg (m.1 153 (((x2 + (zn 15)) + x3).toNatClampNeg))) 139 x3.toNatClampNeg (m.1 153 (((x2 + (zn 25)) + x3).toNatClampNeg)), m.2))))))) := rfl
set_option maxRecDepth 100000 in
theorem n_M_take_107_153 (d : Nat) (a2 : Int32) (m : am_M) : am_c (d + 1) y_M_take [.ref 107, .ref 153, .int a2] m = (r_M_take_107_153_2 d 29999 a2 (zn 0) m) := by
  have h : am_c (d + 1) y_M_take [.ref 107, .ref 153, .int a2] m = r_M_take_107_153_0 d fu a2 m := by
    rfl
  rw [h, fu_eq]; exact e_M_take_107_153_0 d 29999 a2 m
noncomputable def r_M_take_107_154_0 (d n : Nat) (a2 : Int32) (m : am_M) : am_R := am_run am_G true (am_c d) 0 pg_M_take [2,53] n 0 [some (.ref 107), some (.ref 154), some (.int a2), none] m
noncomputable def r_M_take_107_154_2 (d n : Nat) (x2 : Int32) (x3 : Int32) (m : am_M) : am_R := am_run am_G true (am_c d) 0 pg_M_take [2,53] n 2 [some (.ref 107), some (.ref 154), some (.int x2), some (.int x3)] m
noncomputable def r_M_take_107_154_53 (d n : Nat) (x2 : Int32) (x3 : Int32) (m : am_M) : am_R := am_run am_G true (am_c d) 0 pg_M_take [2,53] n 53 [some (.ref 107), some (.ref 154), some (.int x2), some (.int x3)] m
set_option maxRecDepth 100000 in
theorem e_M_take_107_154_0 (d n : Nat) (a2 : Int32) (m : am_M) : r_M_take_107_154_0 d (n + 1) a2 m = (r_M_take_107_154_2 d n a2 (zn 0) m) := rfl
set_option maxRecDepth 100000 in
theorem e_M_take_107_154_2 (d n : Nat) (x2 : Int32) (x3 : Int32) (m : am_M) : r_M_take_107_154_2 d (n + 1) x2 x3 m = (am_b (am_le (zn 5) x3) (r_M_take_107_154_53 d n x2 (zn 0) m) (am_b (am_oi (x2 + x3) 36) none (am_b (am_oi x3 10) none (am_b (am_oi ((x2 + (zn 5)) + x3) 36) none (am_b (am_oi x3 5) none (am_b (am_oi ((x2 + (zn 10)) + x3) 36) none (am_b (am_oi x3 10) none (r_M_take_107_154_2 d n x2 (x3 + (zn 1)) (am_w (am_w (am_w m.1 132 x3.toNatClampNeg (m.1 154 ((x2 + x3).toNatClampNeg))) 136 x3.toNatClampNeg (m.1 154 (((x2 + (zn 5)) + x3).toNatClampNeg))) 137 x3.toNatClampNeg (m.1 154 (((x2 + (zn 10)) + x3).toNatClampNeg)), m.2))))))))) := rfl
set_option maxRecDepth 100000 in
theorem e_M_take_107_154_53 (d n : Nat) (x2 : Int32) (x3 : Int32) (m : am_M) : r_M_take_107_154_53 d (n + 1) x2 x3 m = (am_b (am_le (zn 10) x3) (am_b (am_oi (x2 + (zn 35)) 36) none (some (none, (am_w m.1 107 55 (m.1 154 ((x2 + (zn 35)).toNatClampNeg)), m.2)))) (am_b (am_oi ((x2 + (zn 15)) + x3) 36) none (am_b (am_oi x3 10) none (am_b (am_oi ((x2 + (zn 25)) + x3) 36) none (am_b (am_oi x3 10) none (r_M_take_107_154_53 d n x2 (x3 + (zn 1)) (am_w (am_w m.1 138 x3.toNatClampNeg (m.1 154 (((x2 + (zn 15)) + x3).toNatClampNeg))) 139 x3.toNatClampNeg (m.1 154 (((x2 + (zn 25)) + x3).toNatClampNeg)), m.2))))))) := rfl
set_option maxRecDepth 100000 in
theorem n_M_take_107_154 (d : Nat) (a2 : Int32) (m : am_M) : am_c (d + 1) y_M_take [.ref 107, .ref 154, .int a2] m = (r_M_take_107_154_2 d 29999 a2 (zn 0) m) := by
  have h : am_c (d + 1) y_M_take [.ref 107, .ref 154, .int a2] m = r_M_take_107_154_0 d fu a2 m := by
    rfl
  rw [h, fu_eq]; exact e_M_take_107_154_0 d 29999 a2 m
noncomputable def r_Day_choose_0 (k : Nat) (d n : Nat) (a2 : Int32) (m : am_M) : am_R := am_run am_G true (am_c d) 1 pg_Day_choose [39] n 0 [some (.ref 26), some (.ref k), some (.int a2), none, none, none, none] m
noncomputable def r_Day_choose_39 (k : Nat) (d n : Nat) (x2 : Int32) (x3 : Int32) (x4 : Int32) (x5 : Int32) (x6 : Option Value) (m : am_M) : am_R := am_run am_G true (am_c d) 1 pg_Day_choose [39] n 39 [some (.ref 26), some (.ref k), some (.int x2), some (.int x3), some (.int x4), some (.int x5), x6] m
set_option maxRecDepth 100000 in
theorem e_Day_choose_0 {k : Nat} (hk : sc_k k) (d n : Nat) (a2 : Int32) (m : am_M) : r_Day_choose_0 k d (n + 1) a2 m = (am_b (am_eq (m.1 46 3) (zn 0)) (some (some (.int (zn 0)), m)) (am_b (am_eq (m.1 46 3) (zn 1)) (some (some (.int ((m.1 k 3) - (zn 1))), m)) (r_Day_choose_39 k d n a2 (zn 0) (zn 2147483647) (zn 0) none m))) := by
  rcases hk with rfl | rfl | rfl | rfl | rfl <;> rfl
set_option maxRecDepth 100000 in
theorem e_Day_choose_39 {k : Nat} (hk : sc_k k) (d n : Nat) (x2 : Int32) (x3 : Int32) (x4 : Int32) (x5 : Int32) (x6 : Option Value) (m : am_M) : r_Day_choose_39 k d (n + 1) x2 x3 x4 x5 x6 m = (am_b (am_le (m.1 k 3) x5) (some (some (.int x3), m)) (am_b (am_oi x5 5) none (am_bI (am_c d y_Told_sizeOf [.ref 27, .int (m.1 (k + 2) x5.toNatClampNeg)] m) (fun r2 m1 => am_b (am_oi x2 5) none (am_b (am_le x4 (am_iabs (r2 - (m1.1 30 x2.toNatClampNeg)))) (r_Day_choose_39 k d n x2 x3 x4 (x5 + (zn 1)) (some (.int (am_iabs (r2 - (m1.1 30 x2.toNatClampNeg))))) m1) (r_Day_choose_39 k d n x2 x5 (am_iabs (r2 - (m1.1 30 x2.toNatClampNeg))) (x5 + (zn 1)) (some (.int (am_iabs (r2 - (m1.1 30 x2.toNatClampNeg))))) m1)))))) := by
  rcases hk with rfl | rfl | rfl | rfl | rfl <;> rfl
set_option maxRecDepth 100000 in
theorem n_Day_choose {k : Nat} (hk : sc_k k) (d : Nat) (a2 : Int32) (m : am_M) : am_c (d + 1) y_Day_choose [.ref 26, .ref k, .int a2] m = (am_b (am_eq (m.1 46 3) (zn 0)) (some (some (.int (zn 0)), m)) (am_b (am_eq (m.1 46 3) (zn 1)) (some (some (.int ((m.1 k 3) - (zn 1))), m)) (r_Day_choose_39 k d 29999 a2 (zn 0) (zn 2147483647) (zn 0) none m))) := by
  have h : am_c (d + 1) y_Day_choose [.ref 26, .ref k, .int a2] m = r_Day_choose_0 k d fu a2 m := by
    rcases hk with rfl | rfl | rfl | rfl | rfl <;> rfl
  rw [h, fu_eq]; exact e_Day_choose_0 hk d 29999 a2 m
noncomputable def r_Day_greatest_0 (k : Nat) (d n : Nat) (m : am_M) : am_R := am_run am_G true (am_c d) 1 pg_Day_greatest [4] n 0 [some (.ref 26), some (.ref k), none, none] m
noncomputable def r_Day_greatest_4 (k : Nat) (d n : Nat) (x2 : Int32) (x3 : Int32) (m : am_M) : am_R := am_run am_G true (am_c d) 1 pg_Day_greatest [4] n 4 [some (.ref 26), some (.ref k), some (.int x2), some (.int x3)] m
set_option maxRecDepth 100000 in
theorem e_Day_greatest_0 {k : Nat} (hk : sc_k k) (d n : Nat) (m : am_M) : r_Day_greatest_0 k d (n + 1) m = (r_Day_greatest_4 k d n (zn 0) (zn 1) m) := by
  rcases hk with rfl | rfl | rfl | rfl | rfl <;> rfl
set_option maxRecDepth 100000 in
theorem e_Day_greatest_4 {k : Nat} (hk : sc_k k) (d n : Nat) (x2 : Int32) (x3 : Int32) (m : am_M) : r_Day_greatest_4 k d (n + 1) x2 x3 m = (am_b (am_le (m.1 k 3) x3) (some (some (.int x2), m)) (am_b (am_oi x3 5) none (am_bI (am_c d y_Told_sizeOf [.ref 27, .int (m.1 (k + 2) x3.toNatClampNeg)] m) (fun r2 m1 => am_b (am_oi x2 5) none (am_bI (am_c d y_Told_sizeOf [.ref 27, .int (m1.1 (k + 2) x2.toNatClampNeg)] m1) (fun r4 m3 => am_b (am_le r2 r4) (r_Day_greatest_4 k d n x2 (x3 + (zn 1)) m3) (r_Day_greatest_4 k d n x3 (x3 + (zn 1)) m3))))))) := by
  rcases hk with rfl | rfl | rfl | rfl | rfl <;> rfl
set_option maxRecDepth 100000 in
theorem n_Day_greatest {k : Nat} (hk : sc_k k) (d : Nat) (m : am_M) : am_c (d + 1) y_Day_greatest [.ref 26, .ref k] m = (r_Day_greatest_4 k d 29999 (zn 0) (zn 1) m) := by
  have h : am_c (d + 1) y_Day_greatest [.ref 26, .ref k] m = r_Day_greatest_0 k d fu m := by
    rcases hk with rfl | rfl | rfl | rfl | rfl <;> rfl
  rw [h, fu_eq]; exact e_Day_greatest_0 hk d 29999 m
noncomputable def r_Day_farness_0 (k : Nat) (d n : Nat) (a2 : Int32) (a3 : Int32) (m : am_M) : am_R := am_run am_G true (am_c d) 1 pg_Day_farness [] n 0 [some (.ref 26), some (.ref k), some (.int a2), some (.int a3)] m
set_option maxRecDepth 100000 in
theorem e_Day_farness_0 {k : Nat} (hk : sc_k k) (d n : Nat) (a2 : Int32) (a3 : Int32) (m : am_M) : r_Day_farness_0 k d (n + 1) a2 a3 m = (am_b (am_oi a2 5) none (am_b (am_oi a3 5) none (some (some (.int (am_iabs ((m.1 29 a2.toNatClampNeg) - (m.1 (k + 3) a3.toNatClampNeg)))), m)))) := by
  rcases hk with rfl | rfl | rfl | rfl | rfl <;> rfl
set_option maxRecDepth 100000 in
theorem n_Day_farness {k : Nat} (hk : sc_k k) (d : Nat) (a2 : Int32) (a3 : Int32) (m : am_M) : am_c (d + 1) y_Day_farness [.ref 26, .ref k, .int a2, .int a3] m = (am_b (am_oi a2 5) none (am_b (am_oi a3 5) none (some (some (.int (am_iabs ((m.1 29 a2.toNatClampNeg) - (m.1 (k + 3) a3.toNatClampNeg)))), m)))) := by
  have h : am_c (d + 1) y_Day_farness [.ref 26, .ref k, .int a2, .int a3] m = r_Day_farness_0 k d fu a2 a3 m := by
    rcases hk with rfl | rfl | rfl | rfl | rfl <;> rfl
  rw [h, fu_eq]; exact e_Day_farness_0 hk d 29999 a2 a3 m
noncomputable def r_Deeds_forgetOldest_0 (d n : Nat) (m : am_M) : am_R := am_run am_G true (am_c d) 0 pg_Deeds_forgetOldest [] n 0 [some (.ref 102)] m
set_option maxRecDepth 100000 in
theorem e_Deeds_forgetOldest_0 (d n : Nat) (m : am_M) : r_Deeds_forgetOldest_0 d (n + 1) m = (some (none, (am_wc (am_wc (am_wc (am_wc (am_w m.1 102 4 (zn 19)) 103 103 1 0 19) 104 104 1 0 19) 105 105 1 0 19) 106 106 1 0 19, m.2))) := rfl
set_option maxRecDepth 100000 in
theorem n_Deeds_forgetOldest (d : Nat) (m : am_M) : am_c (d + 1) y_Deeds_forgetOldest [.ref 102] m = (some (none, (am_wc (am_wc (am_wc (am_wc (am_w m.1 102 4 (zn 19)) 103 103 1 0 19) 104 104 1 0 19) 105 105 1 0 19) 106 106 1 0 19, m.2))) := by
  have h : am_c (d + 1) y_Deeds_forgetOldest [.ref 102] m = r_Deeds_forgetOldest_0 d fu m := by
    rfl
  rw [h, fu_eq]; exact e_Deeds_forgetOldest_0 d 29999 m
noncomputable def r_Finder_goToNextOrder_0 (d n : Nat) (m : am_M) : am_R := am_run am_G true (am_c d) 2 pg_Finder_goToNextOrder [14,49,91] n 0 [some (.ref 25), none, none, none, none, none] m
noncomputable def r_Finder_goToNextOrder_14 (d n : Nat) (x1 : Int32) (x2 : Int32) (m : am_M) : am_R := am_run am_G true (am_c d) 2 pg_Finder_goToNextOrder [14,49,91] n 14 [some (.ref 25), some (.int x1), some (.int x2), none, none, none] m
noncomputable def r_Finder_goToNextOrder_49 (d n : Nat) (x1 : Int32) (x2 : Int32) (x3 : Int32) (m : am_M) : am_R := am_run am_G true (am_c d) 2 pg_Finder_goToNextOrder [14,49,91] n 49 [some (.ref 25), some (.int x1), some (.int x2), some (.int x3), none, none] m
noncomputable def r_Finder_goToNextOrder_91 (d n : Nat) (x1 : Int32) (x2 : Int32) (x3 : Int32) (x4 : Int32) (x5 : Int32) (m : am_M) : am_R := am_run am_G true (am_c d) 2 pg_Finder_goToNextOrder [14,49,91] n 91 [some (.ref 25), some (.int x1), some (.int x2), some (.int x3), some (.int x4), some (.int x5)] m
set_option maxRecDepth 100000 in
theorem e_Finder_goToNextOrder_0 (d n : Nat) (m : am_M) : r_Finder_goToNextOrder_0 d (n + 1) m = (r_Finder_goToNextOrder_14 d n ((m.1 27 8) - (zn 1)) (((m.1 27 8) - (zn 1)) - (zn 1)) m) := rfl
set_option maxRecDepth 100000 in
theorem e_Finder_goToNextOrder_14 (d n : Nat) (x1 : Int32) (x2 : Int32) (m : am_M) : r_Finder_goToNextOrder_14 d (n + 1) x1 x2 m = (am_b (am_lt x2 (zn 0)) (am_b (am_le (zn 0) x2) (r_Finder_goToNextOrder_49 d n x1 x2 x1 m) (some (some (.int (zn 0)), m))) (am_b (am_oi x2 5) none (am_b (am_oi (x2 + (zn 1)) 5) none (am_b (am_le (m.1 66 x2.toNatClampNeg) (m.1 66 ((x2 + (zn 1)).toNatClampNeg))) (am_b (am_le (zn 0) x2) (r_Finder_goToNextOrder_49 d n x1 x2 x1 m) (some (some (.int (zn 0)), m))) (r_Finder_goToNextOrder_14 d n x1 (x2 + zm) m))))) := rfl
set_option maxRecDepth 100000 in
theorem e_Finder_goToNextOrder_49 (d n : Nat) (x1 : Int32) (x2 : Int32) (x3 : Int32) (m : am_M) : r_Finder_goToNextOrder_49 d (n + 1) x1 x2 x3 m = (am_b (am_le x3 (x2 + (zn 1))) (am_bV (am_c d y_Finder_exchangeInOrder [.ref 25, .int x2, .int x3] m) (fun m1 => r_Finder_goToNextOrder_91 d n x1 x2 x3 (x2 + (zn 1)) x1 m1)) (am_b (am_oi x3 5) none (am_b (am_oi x2 5) none (am_b (am_le (m.1 66 x2.toNatClampNeg) (m.1 66 x3.toNatClampNeg)) (am_bV (am_c d y_Finder_exchangeInOrder [.ref 25, .int x2, .int x3] m) (fun m2 => r_Finder_goToNextOrder_91 d n x1 x2 x3 (x2 + (zn 1)) x1 m2)) (r_Finder_goToNextOrder_49 d n x1 x2 (x3 + zm) m))))) := rfl
set_option maxRecDepth 100000 in
theorem e_Finder_goToNextOrder_91 (d n : Nat) (x1 : Int32) (x2 : Int32) (x3 : Int32) (x4 : Int32) (x5 : Int32) (m : am_M) : r_Finder_goToNextOrder_91 d (n + 1) x1 x2 x3 x4 x5 m = (am_b (am_le x5 x4) (some (some (.int (zn 1)), m)) (am_bV (am_c d y_Finder_exchangeInOrder [.ref 25, .int x4, .int x5] m) (fun m1 => r_Finder_goToNextOrder_91 d n x1 x2 x3 (x4 + (zn 1)) (x5 + zm) m1))) := rfl
set_option maxRecDepth 100000 in
theorem n_Finder_goToNextOrder (d : Nat) (m : am_M) : am_c (d + 1) y_Finder_goToNextOrder [.ref 25] m = (r_Finder_goToNextOrder_14 d 29999 ((m.1 27 8) - (zn 1)) (((m.1 27 8) - (zn 1)) - (zn 1)) m) := by
  have h : am_c (d + 1) y_Finder_goToNextOrder [.ref 25] m = r_Finder_goToNextOrder_0 d fu m := by
    rfl
  rw [h, fu_eq]; exact e_Finder_goToNextOrder_0 d 29999 m
noncomputable def r_Laws_copyFrom_0 (d n : Nat) (m : am_M) : am_R := am_run am_G true (am_c d) 0 pg_Laws_copyFrom [] n 0 [some (.ref 39), some (.ref 17)] m
set_option maxRecDepth 100000 in
theorem e_Laws_copyFrom_0 (d n : Nat) (m : am_M) : r_Laws_copyFrom_0 d (n + 1) m = (some (none, (am_wc (am_wc (am_wc (am_wc (am_w m.1 39 2 (m.1 17 2)) 18 40 0 0 64) 19 41 0 0 64) 20 42 0 0 3) 21 43 0 0 3, m.2))) := rfl
set_option maxRecDepth 100000 in
theorem n_Laws_copyFrom (d : Nat) (m : am_M) : am_c (d + 1) y_Laws_copyFrom [.ref 39, .ref 17] m = (some (none, (am_wc (am_wc (am_wc (am_wc (am_w m.1 39 2 (m.1 17 2)) 18 40 0 0 64) 19 41 0 0 64) 20 42 0 0 3) 21 43 0 0 3, m.2))) := by
  have h : am_c (d + 1) y_Laws_copyFrom [.ref 39, .ref 17] m = r_Laws_copyFrom_0 d fu m := by
    rfl
  rw [h, fu_eq]; exact e_Laws_copyFrom_0 d 29999 m
noncomputable def r_Laws_join_0 (d n : Nat) (a0 : Int32) (a1 : Int64) (a2 : Int64) (m : am_M) : am_R := am_run am_G true (am_c d) 3 pg_Laws_join [] n 0 [some (.int a0), some (.long a1), none, some (.long a2), none] m
set_option maxRecDepth 100000 in
theorem e_Laws_join_0 (d n : Nat) (a0 : Int32) (a1 : Int64) (a2 : Int64) (m : am_M) : r_Laws_join_0 d (n + 1) a0 a1 a2 m = (am_b (am_eq a0 (zn 15)) (am_b (am_eq (lg_cmp a1 0) (zn 0)) (am_b (am_eq (lg_cmp a2 0) (zn 0)) (some (some (.long 0), m)) (some (some (.long 1), m))) (some (some (.long 1), m))) (am_b (am_eq a0 (zn 16)) (am_b (am_eq (lg_cmp a1 0) (zn 0)) (some (some (.long 0), m)) (am_b (am_eq (lg_cmp a2 0) (zn 0)) (some (some (.long 0), m)) (some (some (.long 1), m)))) (am_b (am_eq a0 (zn 17)) (am_b (am_eq (lg_cmp a2 0) (zn 0)) (some (some (.long lmin), m)) (am_b (am_el a2 0) none (some (some (.long (a1 / a2)), m)))) (am_b (am_eq a0 (zn 18)) (am_b (am_eq (lg_cmp a2 0) (zn 0)) (some (some (.long lmin), m)) (am_b (am_el a2 0) none (some (some (.long (a1 / a2)), m)))) (am_b (am_eq a0 (zn 19)) (am_b (am_eq (lg_cmp a2 0) (zn 0)) (some (some (.long lmin), m)) (am_b (am_el a2 0) none (some (some (.long (a1 / a2)), m)))) (am_b (am_eq a0 (zn 20)) (am_b (am_eq (lg_cmp a2 0) (zn 0)) (some (some (.long lmin), m)) (am_b (am_el a2 0) none (some (some (.long (a1 / a2)), m)))) (am_b (am_eq a0 (zn 21)) (am_b (am_eq (lg_cmp a2 0) (zn 0)) (some (some (.long lmin), m)) (am_b (am_el a2 0) none (some (some (.long (a1 / a2)), m)))) (am_b (am_eq a0 (zn 22)) (am_b (am_eq (lg_cmp a2 0) (zn 0)) (some (some (.long lmin), m)) (am_b (am_el a2 0) none (some (some (.long (a1 / a2)), m)))) (am_b (am_eq a0 (zn 23)) (am_b (am_eq (lg_cmp a2 0) (zn 0)) (some (some (.long lmin), m)) (am_b (am_el a2 0) none (some (some (.long (a1 / a2)), m)))) (am_b (am_eq a0 (zn 24)) (am_b (am_eq (lg_cmp a2 0) (zn 0)) (some (some (.long lmin), m)) (am_b (am_el a2 0) none (some (some (.long (a1 / a2)), m)))) (am_b (am_eq a0 (zn 25)) (am_b (am_eq (lg_cmp a2 0) (zn 0)) (some (some (.long lmin), m)) (am_b (am_el a2 0) none (some (some (.long (a1 / a2)), m)))) (am_b (am_eq a0 (zn 26)) (am_b (am_eq (lg_cmp a2 0) (zn 0)) (some (some (.long lmin), m)) (am_b (am_el a2 0) none (some (some (.long (a1 / a2)), m)))) (am_b (am_eq a0 (zn 27)) (am_b (am_eq (lg_cmp a2 0) (zn 0)) (some (some (.long lmin), m)) (am_b (am_el a2 0) none (some (some (.long (a1 / a2)), m)))) (am_b (am_eq a0 (zn 28)) (am_b (am_eq (lg_cmp a2 0) (zn 0)) (some (some (.long lmin), m)) (am_b (am_el a2 0) none (some (some (.long (a1 / a2)), m)))) (am_b (am_eq a0 (zn 29)) (am_b (am_eq (lg_cmp a2 0) (zn 0)) (some (some (.long lmin), m)) (am_b (am_el a2 0) none (some (some (.long (a1 / a2)), m)))) (am_b (am_eq a0 (zn 30)) (am_b (am_le (zn 0) (lg_cmp a1 a2)) (some (some (.long 0), m)) (some (some (.long 1), m))) (am_b (am_eq a0 (zn 31)) (am_b (am_lt (zn 0) (lg_cmp a1 a2)) (some (some (.long 0), m)) (some (some (.long 1), m))) (am_b (am_eq a0 (zn 32)) (am_b (am_eq (lg_cmp a1 a2) (zn 0)) (some (some (.long 1), m)) (some (some (.long 0), m))) (am_b (am_eq a0 (zn 33)) (am_b (am_eq (lg_cmp a1 a2) (zn 0)) (some (some (.long 0), m)) (some (some (.long 1), m))) (am_b (am_eq a0 (zn 34)) (am_b (am_lt (lg_cmp a1 a2) (zn 0)) (some (some (.long 0), m)) (some (some (.long 1), m))) (am_b (am_eq a0 (zn 35)) (am_b (am_le (lg_cmp a1 a2) (zn 0)) (some (some (.long 0), m)) (some (some (.long 1), m))) (am_b (am_eq a0 (zn 36)) (some (some (.long (a1 + a2)), m)) (am_b (am_eq a0 (zn 37)) (some (some (.long (a1 - a2)), m)) (am_b (am_eq a0 (zn 38)) (am_b (am_eq (lg_cmp a1 0) (zn 0)) (some (some (.long (a1 * a2)), m)) (am_b (am_el (am_labs a1) 0) none (am_b (am_le (lg_cmp (am_labs a2) (1000000000000 / (am_labs a1))) (zn 0)) (some (some (.long (a1 * a2)), m)) (some (some (.long lmin), m))))) (am_b (am_eq (lg_cmp a2 0) (zn 0)) (some (some (.long lmin), m)) (am_b (am_el a2 0) none (some (some (.long (a1 / a2)), m)))))))))))))))))))))))))))) := rfl
set_option maxRecDepth 100000 in
theorem n_Laws_join (d : Nat) (a0 : Int32) (a1 : Int64) (a2 : Int64) (m : am_M) : am_c (d + 1) y_Laws_join [.int a0, .long a1, .long a2] m = (am_b (am_eq a0 (zn 15)) (am_b (am_eq (lg_cmp a1 0) (zn 0)) (am_b (am_eq (lg_cmp a2 0) (zn 0)) (some (some (.long 0), m)) (some (some (.long 1), m))) (some (some (.long 1), m))) (am_b (am_eq a0 (zn 16)) (am_b (am_eq (lg_cmp a1 0) (zn 0)) (some (some (.long 0), m)) (am_b (am_eq (lg_cmp a2 0) (zn 0)) (some (some (.long 0), m)) (some (some (.long 1), m)))) (am_b (am_eq a0 (zn 17)) (am_b (am_eq (lg_cmp a2 0) (zn 0)) (some (some (.long lmin), m)) (am_b (am_el a2 0) none (some (some (.long (a1 / a2)), m)))) (am_b (am_eq a0 (zn 18)) (am_b (am_eq (lg_cmp a2 0) (zn 0)) (some (some (.long lmin), m)) (am_b (am_el a2 0) none (some (some (.long (a1 / a2)), m)))) (am_b (am_eq a0 (zn 19)) (am_b (am_eq (lg_cmp a2 0) (zn 0)) (some (some (.long lmin), m)) (am_b (am_el a2 0) none (some (some (.long (a1 / a2)), m)))) (am_b (am_eq a0 (zn 20)) (am_b (am_eq (lg_cmp a2 0) (zn 0)) (some (some (.long lmin), m)) (am_b (am_el a2 0) none (some (some (.long (a1 / a2)), m)))) (am_b (am_eq a0 (zn 21)) (am_b (am_eq (lg_cmp a2 0) (zn 0)) (some (some (.long lmin), m)) (am_b (am_el a2 0) none (some (some (.long (a1 / a2)), m)))) (am_b (am_eq a0 (zn 22)) (am_b (am_eq (lg_cmp a2 0) (zn 0)) (some (some (.long lmin), m)) (am_b (am_el a2 0) none (some (some (.long (a1 / a2)), m)))) (am_b (am_eq a0 (zn 23)) (am_b (am_eq (lg_cmp a2 0) (zn 0)) (some (some (.long lmin), m)) (am_b (am_el a2 0) none (some (some (.long (a1 / a2)), m)))) (am_b (am_eq a0 (zn 24)) (am_b (am_eq (lg_cmp a2 0) (zn 0)) (some (some (.long lmin), m)) (am_b (am_el a2 0) none (some (some (.long (a1 / a2)), m)))) (am_b (am_eq a0 (zn 25)) (am_b (am_eq (lg_cmp a2 0) (zn 0)) (some (some (.long lmin), m)) (am_b (am_el a2 0) none (some (some (.long (a1 / a2)), m)))) (am_b (am_eq a0 (zn 26)) (am_b (am_eq (lg_cmp a2 0) (zn 0)) (some (some (.long lmin), m)) (am_b (am_el a2 0) none (some (some (.long (a1 / a2)), m)))) (am_b (am_eq a0 (zn 27)) (am_b (am_eq (lg_cmp a2 0) (zn 0)) (some (some (.long lmin), m)) (am_b (am_el a2 0) none (some (some (.long (a1 / a2)), m)))) (am_b (am_eq a0 (zn 28)) (am_b (am_eq (lg_cmp a2 0) (zn 0)) (some (some (.long lmin), m)) (am_b (am_el a2 0) none (some (some (.long (a1 / a2)), m)))) (am_b (am_eq a0 (zn 29)) (am_b (am_eq (lg_cmp a2 0) (zn 0)) (some (some (.long lmin), m)) (am_b (am_el a2 0) none (some (some (.long (a1 / a2)), m)))) (am_b (am_eq a0 (zn 30)) (am_b (am_le (zn 0) (lg_cmp a1 a2)) (some (some (.long 0), m)) (some (some (.long 1), m))) (am_b (am_eq a0 (zn 31)) (am_b (am_lt (zn 0) (lg_cmp a1 a2)) (some (some (.long 0), m)) (some (some (.long 1), m))) (am_b (am_eq a0 (zn 32)) (am_b (am_eq (lg_cmp a1 a2) (zn 0)) (some (some (.long 1), m)) (some (some (.long 0), m))) (am_b (am_eq a0 (zn 33)) (am_b (am_eq (lg_cmp a1 a2) (zn 0)) (some (some (.long 0), m)) (some (some (.long 1), m))) (am_b (am_eq a0 (zn 34)) (am_b (am_lt (lg_cmp a1 a2) (zn 0)) (some (some (.long 0), m)) (some (some (.long 1), m))) (am_b (am_eq a0 (zn 35)) (am_b (am_le (lg_cmp a1 a2) (zn 0)) (some (some (.long 0), m)) (some (some (.long 1), m))) (am_b (am_eq a0 (zn 36)) (some (some (.long (a1 + a2)), m)) (am_b (am_eq a0 (zn 37)) (some (some (.long (a1 - a2)), m)) (am_b (am_eq a0 (zn 38)) (am_b (am_eq (lg_cmp a1 0) (zn 0)) (some (some (.long (a1 * a2)), m)) (am_b (am_el (am_labs a1) 0) none (am_b (am_le (lg_cmp (am_labs a2) (1000000000000 / (am_labs a1))) (zn 0)) (some (some (.long (a1 * a2)), m)) (some (some (.long lmin), m))))) (am_b (am_eq (lg_cmp a2 0) (zn 0)) (some (some (.long lmin), m)) (am_b (am_el a2 0) none (some (some (.long (a1 / a2)), m)))))))))))))))))))))))))))) := by
  have h : am_c (d + 1) y_Laws_join [.int a0, .long a1, .long a2] m = r_Laws_join_0 d fu a0 a1 a2 m := by
    rfl
  rw [h, fu_eq]; exact e_Laws_join_0 d 29999 a0 a1 a2 m
noncomputable def r_Memory_judge_0 (d n : Nat) (m : am_M) : am_R := am_run am_G true (am_c d) 0 pg_Memory_judge [2,28] n 0 [some (.ref 97), none] m
noncomputable def r_Memory_judge_2 (d n : Nat) (x1 : Int32) (m : am_M) : am_R := am_run am_G true (am_c d) 0 pg_Memory_judge [2,28] n 2 [some (.ref 97), some (.int x1)] m
noncomputable def r_Memory_judge_28 (d n : Nat) (x1 : Int32) (m : am_M) : am_R := am_run am_G true (am_c d) 0 pg_Memory_judge [2,28] n 28 [some (.ref 97), some (.int x1)] m
set_option maxRecDepth 100000 in
theorem e_Memory_judge_0 (d n : Nat) (m : am_M) : r_Memory_judge_0 d (n + 1) m = (r_Memory_judge_2 d n (zn 0) m) := rfl
set_option maxRecDepth 100000 in
theorem e_Memory_judge_2 (d n : Nat) (x1 : Int32) (m : am_M) : r_Memory_judge_2 d (n + 1) x1 m = (am_b (am_le (zn 24) x1) (am_bI (am_c d y_Memory_countBy [.ref 97] m) (fun r2 m1 => r_Memory_judge_28 d n (r2 - (zn 1)) m1)) (am_b (am_oi x1 24) none (r_Memory_judge_2 d n (x1 + (zn 1)) (am_w m.1 101 x1.toNatClampNeg (vp_nar .boolean (zn 0)), m.2)))) := rfl
set_option maxRecDepth 100000 in
theorem e_Memory_judge_28 (d n : Nat) (x1 : Int32) (m : am_M) : r_Memory_judge_28 d (n + 1) x1 m = (am_b (am_lt x1 (zn 0)) (some (none, m)) (am_b (am_oi x1 24) none (am_b (am_eq (m.1 98 x1.toNatClampNeg) (zn 0)) (am_b (am_oi x1 24) none (am_b (am_eq (m.1 101 x1.toNatClampNeg) (zn 0)) (am_b (am_oi x1 24) none (am_b (am_oi (m.1 100 x1.toNatClampNeg) 24) none (r_Memory_judge_28 d n (x1 + zm) (am_w m.1 101 ((m.1 100 x1.toNatClampNeg).toNatClampNeg) (vp_nar .boolean (zn 1)), m.2)))) (r_Memory_judge_28 d n (x1 + zm) m))) (r_Memory_judge_28 d n (x1 + zm) m)))) := rfl
set_option maxRecDepth 100000 in
theorem n_Memory_judge (d : Nat) (m : am_M) : am_c (d + 1) y_Memory_judge [.ref 97] m = (r_Memory_judge_2 d 29999 (zn 0) m) := by
  have h : am_c (d + 1) y_Memory_judge [.ref 97] m = r_Memory_judge_0 d fu m := by
    rfl
  rw [h, fu_eq]; exact e_Memory_judge_0 d 29999 m
noncomputable def r_Memory_lastDay_0 (d n : Nat) (m : am_M) : am_R := am_run am_G true (am_c d) 1 pg_Memory_lastDay [4] n 0 [some (.ref 97), none, none] m
noncomputable def r_Memory_lastDay_4 (d n : Nat) (x1 : Int32) (x2 : Int32) (m : am_M) : am_R := am_run am_G true (am_c d) 1 pg_Memory_lastDay [4] n 4 [some (.ref 97), some (.int x1), some (.int x2)] m
set_option maxRecDepth 100000 in
theorem e_Memory_lastDay_0 (d n : Nat) (m : am_M) : r_Memory_lastDay_0 d (n + 1) m = (r_Memory_lastDay_4 d n (zn 0) (zn 0) m) := rfl
set_option maxRecDepth 100000 in
theorem e_Memory_lastDay_4 (d n : Nat) (x1 : Int32) (x2 : Int32) (m : am_M) : r_Memory_lastDay_4 d (n + 1) x1 x2 m = (am_bI (am_c d y_Memory_countBy [.ref 97] m) (fun r2 m1 => am_b (am_le r2 x2) (some (some (.int x1), m1)) (am_bI (am_c d y_Memory_isKnown [.ref 97, .int x2] m1) (fun r4 m3 => am_b (am_eq r4 (zn 0)) (r_Memory_lastDay_4 d n x1 (x2 + (zn 1)) m3) (am_b (am_oi x2 24) none (r_Memory_lastDay_4 d n (am_imax x1 (m3.1 98 x2.toNatClampNeg)) (x2 + (zn 1)) m3)))))) := rfl
set_option maxRecDepth 100000 in
theorem n_Memory_lastDay (d : Nat) (m : am_M) : am_c (d + 1) y_Memory_lastDay [.ref 97] m = (r_Memory_lastDay_4 d 29999 (zn 0) (zn 0) m) := by
  have h : am_c (d + 1) y_Memory_lastDay [.ref 97] m = r_Memory_lastDay_0 d fu m := by
    rfl
  rw [h, fu_eq]; exact e_Memory_lastDay_0 d 29999 m
noncomputable def r_Memory_agrees_0 (k : Nat) (d n : Nat) (a1 : Int32) (m : am_M) : am_R := am_run am_G true (am_c d) 2 pg_Memory_agrees [3] n 0 [some (.ref 97), some (.int a1), some (.ref k), some (.ref 27), none, none] m
noncomputable def r_Memory_agrees_3 (k : Nat) (d n : Nat) (x1 : Int32) (x4 : Int32) (x5 : Option Value) (m : am_M) : am_R := am_run am_G true (am_c d) 2 pg_Memory_agrees [3] n 3 [some (.ref 97), some (.int x1), some (.ref k), some (.ref 27), some (.int x4), x5] m
set_option maxRecDepth 100000 in
theorem e_Memory_agrees_0 {k : Nat} (hk : sc_k k) (d n : Nat) (a1 : Int32) (m : am_M) : r_Memory_agrees_0 k d (n + 1) a1 m = (r_Memory_agrees_3 k d n a1 (zn 0) none m) := by
  rcases hk with rfl | rfl | rfl | rfl | rfl <;> rfl
set_option maxRecDepth 100000 in
theorem e_Memory_agrees_3 {k : Nat} (hk : sc_k k) (d n : Nat) (x1 : Int32) (x4 : Int32) (x5 : Option Value) (m : am_M) : r_Memory_agrees_3 k d (n + 1) x1 x4 x5 m = (am_bI (am_c d y_Memory_countBy [.ref 97] m) (fun r2 m1 => am_b (am_le r2 x4) (some (some (.int (zn 1)), m1)) (am_bI (am_c d y_Memory_isKnown [.ref 97, .int x4] m1) (fun r4 m3 => am_b (am_eq r4 (zn 0)) (r_Memory_agrees_3 k d n x1 (x4 + (zn 1)) x5 m3) (am_b (am_oi x4 24) none (am_b (am_eq (m3.1 98 x4.toNatClampNeg) x1) (am_b (am_oi x4 24) none (am_b (am_oi (m3.1 99 x4.toNatClampNeg) 5) none (am_b (am_eq (m3.1 (k + 1) ((m3.1 99 x4.toNatClampNeg).toNatClampNeg)) zm) (some (some (.int (zn 0)), m3)) (am_b (am_oi (m3.1 (k + 1) ((m3.1 99 x4.toNatClampNeg).toNatClampNeg)) 5) none (am_b (am_oi x4 24) none (am_b (am_eq (m3.1 32 ((m3.1 (k + 1) ((m3.1 99 x4.toNatClampNeg).toNatClampNeg)).toNatClampNeg)) (m3.1 100 x4.toNatClampNeg)) (r_Memory_agrees_3 k d n x1 (x4 + (zn 1)) (some (.int (m3.1 (k + 1) ((m3.1 99 x4.toNatClampNeg).toNatClampNeg)))) m3) (some (some (.int (zn 0)), m3)))))))) (r_Memory_agrees_3 k d n x1 (x4 + (zn 1)) x5 m3))))))) := by
  rcases hk with rfl | rfl | rfl | rfl | rfl <;> rfl
set_option maxRecDepth 100000 in
theorem n_Memory_agrees {k : Nat} (hk : sc_k k) (d : Nat) (a1 : Int32) (m : am_M) : am_c (d + 1) y_Memory_agrees [.ref 97, .int a1, .ref k, .ref 27] m = (r_Memory_agrees_3 k d 29999 a1 (zn 0) none m) := by
  have h : am_c (d + 1) y_Memory_agrees [.ref 97, .int a1, .ref k, .ref 27] m = r_Memory_agrees_0 k d fu a1 m := by
    rcases hk with rfl | rfl | rfl | rfl | rfl <;> rfl
  rw [h, fu_eq]; exact e_Memory_agrees_0 hk d 29999 a1 m
