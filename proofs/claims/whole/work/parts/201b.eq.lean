noncomputable def r_Told_shadowsLooking_0 (d n : Nat) (a1 : Int32) (m : am_M) : am_R := am_run am_G true (am_c d) 1 pg_Told_shadowsLooking [4] n 0 [some (.ref 27), some (.int a1), none, none] m
noncomputable def r_Told_shadowsLooking_4 (d n : Nat) (x1 : Int32) (x2 : Int32) (x3 : Int32) (m : am_M) : am_R := am_run am_G true (am_c d) 1 pg_Told_shadowsLooking [4] n 4 [some (.ref 27), some (.int x1), some (.int x2), some (.int x3)] m
set_option maxRecDepth 100000 in
theorem e_Told_shadowsLooking_0 (d n : Nat) (a1 : Int32) (m : am_M) : r_Told_shadowsLooking_0 d (n + 1) a1 m = (r_Told_shadowsLooking_4 d n a1 (zn 0) (zn 0) m) := rfl
set_option maxRecDepth 100000 in
theorem e_Told_shadowsLooking_4 (d n : Nat) (x1 : Int32) (x2 : Int32) (x3 : Int32) (m : am_M) : r_Told_shadowsLooking_4 d (n + 1) x1 x2 x3 m = (am_b (am_le (m.1 27 0) x3) (some (some (.int x2), m)) (am_b (am_oi x3 5) none (am_b (am_eq (m.1 32 x3.toNatClampNeg) x1) (r_Told_shadowsLooking_4 d n x1 (x2 ||| ((zn 1) <<< (x3 &&& 31))) (x3 + (zn 1)) m) (r_Told_shadowsLooking_4 d n x1 x2 (x3 + (zn 1)) m)))) := rfl
set_option maxRecDepth 100000 in
theorem n_Told_shadowsLooking (d : Nat) (a1 : Int32) (m : am_M) : am_c (d + 1) y_Told_shadowsLooking [.ref 27, .int a1] m = (r_Told_shadowsLooking_4 d 29999 a1 (zn 0) (zn 0) m) := by
  have h : am_c (d + 1) y_Told_shadowsLooking [.ref 27, .int a1] m = r_Told_shadowsLooking_0 d fu a1 m := by
    rfl
  rw [h, fu_eq]; exact e_Told_shadowsLooking_0 d 29999 a1 m
noncomputable def r_Told_moveUpAndLeft_0 (d n : Nat) (a0 : Int32) (m : am_M) : am_R := am_run am_G true (am_c d) 1 pg_Told_moveUpAndLeft [4,29] n 0 [some (.int a0), none, none] m
noncomputable def r_Told_moveUpAndLeft_4 (d n : Nat) (x0 : Int32) (x1 : Int32) (x2 : Int32) (m : am_M) : am_R := am_run am_G true (am_c d) 1 pg_Told_moveUpAndLeft [4,29] n 4 [some (.int x0), some (.int x1), some (.int x2)] m
noncomputable def r_Told_moveUpAndLeft_29 (d n : Nat) (x0 : Int32) (x1 : Int32) (x2 : Int32) (m : am_M) : am_R := am_run am_G true (am_c d) 1 pg_Told_moveUpAndLeft [4,29] n 29 [some (.int x0), some (.int x1), some (.int x2)] m
set_option maxRecDepth 100000 in
theorem e_Told_moveUpAndLeft_0 (d n : Nat) (a0 : Int32) (m : am_M) : r_Told_moveUpAndLeft_0 d (n + 1) a0 m = (r_Told_moveUpAndLeft_4 d n a0 a0 (zn 0) m) := rfl
set_option maxRecDepth 100000 in
theorem e_Told_moveUpAndLeft_4 (d n : Nat) (x0 : Int32) (x1 : Int32) (x2 : Int32) (m : am_M) : r_Told_moveUpAndLeft_4 d (n + 1) x0 x1 x2 m = (am_b (am_le (zn 2) x2) (r_Told_moveUpAndLeft_29 d n x0 x1 (zn 0) m) (am_b (am_eq (x1 &&& (zn 448)) (zn 0)) (r_Told_moveUpAndLeft_4 d n x0 (x1 <<< ((zn 3) &&& 31)) (x2 + (zn 1)) m) (r_Told_moveUpAndLeft_29 d n x0 x1 (zn 0) m))) := rfl
set_option maxRecDepth 100000 in
theorem e_Told_moveUpAndLeft_29 (d n : Nat) (x0 : Int32) (x1 : Int32) (x2 : Int32) (m : am_M) : r_Told_moveUpAndLeft_29 d (n + 1) x0 x1 x2 m = (am_b (am_le (zn 2) x2) (some (some (.int x1), m)) (am_b (am_eq (x1 &&& (zn 292)) (zn 0)) (r_Told_moveUpAndLeft_29 d n x0 (x1 <<< ((zn 1) &&& 31)) (x2 + (zn 1)) m) (some (some (.int x1), m)))) := rfl
set_option maxRecDepth 100000 in
theorem n_Told_moveUpAndLeft (d : Nat) (a0 : Int32) (m : am_M) : am_c (d + 1) y_Told_moveUpAndLeft [.int a0] m = (r_Told_moveUpAndLeft_4 d 29999 a0 a0 (zn 0) m) := by
  have h : am_c (d + 1) y_Told_moveUpAndLeft [.int a0] m = r_Told_moveUpAndLeft_0 d fu a0 m := by
    rfl
  rw [h, fu_eq]; exact e_Told_moveUpAndLeft_0 d 29999 a0 m
noncomputable def r_Ways_reachAll_0 (d n : Nat) (m : am_M) : am_R := am_run am_G true (am_c d) 0 pg_Ways_reachAll [2] n 0 [some (.ref 46), none] m
noncomputable def r_Ways_reachAll_2 (d n : Nat) (x1 : Int32) (m : am_M) : am_R := am_run am_G true (am_c d) 0 pg_Ways_reachAll [2] n 2 [some (.ref 46), some (.int x1)] m
set_option maxRecDepth 100000 in
theorem e_Ways_reachAll_0 (d n : Nat) (m : am_M) : r_Ways_reachAll_0 d (n + 1) m = (r_Ways_reachAll_2 d n (zn 0) m) := rfl
set_option maxRecDepth 100000 in
theorem e_Ways_reachAll_2 (d n : Nat) (x1 : Int32) (m : am_M) : r_Ways_reachAll_2 d (n + 1) x1 m = (am_b (am_le (zn 5) x1) (some (none, m)) (am_b (am_oi x1 5) none (r_Ways_reachAll_2 d n (x1 + (zn 1)) (am_w m.1 49 x1.toNatClampNeg (zn 29), m.2)))) := rfl
set_option maxRecDepth 100000 in
theorem n_Ways_reachAll (d : Nat) (m : am_M) : am_c (d + 1) y_Ways_reachAll [.ref 46] m = (r_Ways_reachAll_2 d 29999 (zn 0) m) := by
  have h : am_c (d + 1) y_Ways_reachAll [.ref 46] m = r_Ways_reachAll_0 d fu m := by
    rfl
  rw [h, fu_eq]; exact e_Ways_reachAll_0 d 29999 m
noncomputable def r_Ways_cheerAll_0 (d n : Nat) (m : am_M) : am_R := am_run am_G true (am_c d) 0 pg_Ways_cheerAll [2] n 0 [some (.ref 46), none] m
noncomputable def r_Ways_cheerAll_2 (d n : Nat) (x1 : Int32) (m : am_M) : am_R := am_run am_G true (am_c d) 0 pg_Ways_cheerAll [2] n 2 [some (.ref 46), some (.int x1)] m
set_option maxRecDepth 100000 in
theorem e_Ways_cheerAll_0 (d n : Nat) (m : am_M) : r_Ways_cheerAll_0 d (n + 1) m = (r_Ways_cheerAll_2 d n (zn 0) m) := rfl
set_option maxRecDepth 100000 in
theorem e_Ways_cheerAll_2 (d n : Nat) (x1 : Int32) (m : am_M) : r_Ways_cheerAll_2 d (n + 1) x1 m = (am_b (am_le (zn 5) x1) (some (none, m)) (am_b (am_oi x1 5) none (am_b (am_eq (m.1 48 x1.toNatClampNeg) (zn 2)) (am_b (am_oi x1 5) none (r_Ways_cheerAll_2 d n (x1 + (zn 1)) (am_w m.1 48 x1.toNatClampNeg (zn 0), m.2))) (r_Ways_cheerAll_2 d n (x1 + (zn 1)) m)))) := rfl
set_option maxRecDepth 100000 in
theorem n_Ways_cheerAll (d : Nat) (m : am_M) : am_c (d + 1) y_Ways_cheerAll [.ref 46] m = (r_Ways_cheerAll_2 d 29999 (zn 0) m) := by
  have h : am_c (d + 1) y_Ways_cheerAll [.ref 46] m = r_Ways_cheerAll_0 d fu m := by
    rfl
  rw [h, fu_eq]; exact e_Ways_cheerAll_0 d 29999 m
noncomputable def r_C_putOnTape_0 (d n : Nat) (a1 : Int32) (m : am_M) : am_R := am_run am_G true (am_c d) 0 pg_C_putOnTape [3] n 0 [some (.ref 0), some (.int a1), none] m
noncomputable def r_C_putOnTape_3 (d n : Nat) (x1 : Int32) (x2 : Int32) (m : am_M) : am_R := am_run am_G true (am_c d) 0 pg_C_putOnTape [3] n 3 [some (.ref 0), some (.int x1), some (.int x2)] m
set_option maxRecDepth 100000 in
theorem e_C_putOnTape_0 (d n : Nat) (a1 : Int32) (m : am_M) : r_C_putOnTape_0 d (n + 1) a1 m = (r_C_putOnTape_3 d n a1 (zn 24) m) := rfl
set_option maxRecDepth 100000 in
theorem e_C_putOnTape_3 (d n : Nat) (x1 : Int32) (x2 : Int32) (m : am_M) : r_C_putOnTape_3 d (n + 1) x1 x2 m = (am_b (am_lt x2 (zn 0)) (some (none, m)) (am_b (am_le (zn 700) (m.1 0 2)) (some (none, m)) (am_b (am_oi (m.1 0 2) 700) none (r_C_putOnTape_3 d n x1 (x2 + (-8)) (am_w (am_w m.1 3 ((m.1 0 2).toNatClampNeg) (vp_nar .byte ((x1 >>> (x2 &&& 31)).toInt8.toInt32))) 0 2 ((m.1 0 2) + (zn 1)), m.2))))) := rfl
set_option maxRecDepth 100000 in
theorem n_C_putOnTape (d : Nat) (a1 : Int32) (m : am_M) : am_c (d + 1) y_C_putOnTape [.ref 0, .int a1] m = (r_C_putOnTape_3 d 29999 a1 (zn 24) m) := by
  have h : am_c (d + 1) y_C_putOnTape [.ref 0, .int a1] m = r_C_putOnTape_0 d fu a1 m := by
    rfl
  rw [h, fu_eq]; exact e_C_putOnTape_0 d 29999 a1 m
noncomputable def r_C_fault_0 (d n : Nat) (a1 : Int32) (m : am_M) : am_R := am_run am_G true (am_c d) 1 pg_C_fault [] n 0 [some (.ref 0), some (.int a1)] m
set_option maxRecDepth 100000 in
theorem e_C_fault_0 (d n : Nat) (a1 : Int32) (m : am_M) : r_C_fault_0 d (n + 1) a1 m = (am_b (am_eq a1 (zn 0)) (some (some (.int (m.1 0 3)), m)) (am_b (am_eq a1 (zn 1)) (some (some (.int (m.1 0 4)), m)) (some (some (.int zm), m)))) := rfl
set_option maxRecDepth 100000 in
theorem n_C_fault (d : Nat) (a1 : Int32) (m : am_M) : am_c (d + 1) y_C_fault [.ref 0, .int a1] m = (am_b (am_eq a1 (zn 0)) (some (some (.int (m.1 0 3)), m)) (am_b (am_eq a1 (zn 1)) (some (some (.int (m.1 0 4)), m)) (some (some (.int zm), m)))) := by
  have h : am_c (d + 1) y_C_fault [.ref 0, .int a1] m = r_C_fault_0 d fu a1 m := by
    rfl
  rw [h, fu_eq]; exact e_C_fault_0 d 29999 a1 m
noncomputable def r_C_wall_0 (d n : Nat) (a1 : Int32) (m : am_M) : am_R := am_run am_G true (am_c d) 1 pg_C_wall [] n 0 [some (.ref 0), some (.int a1)] m
set_option maxRecDepth 100000 in
theorem e_C_wall_0 (d n : Nat) (a1 : Int32) (m : am_M) : r_C_wall_0 d (n + 1) a1 m = (am_b (am_le (zn 0) a1) (am_b (am_le (m.1 71 3) a1) (some (some (.int zq), m)) (am_b (am_oi a1 5) none (some (some (.int (m.1 73 a1.toNatClampNeg)), m)))) (some (some (.int zm), m))) := rfl
set_option maxRecDepth 100000 in
theorem n_C_wall (d : Nat) (a1 : Int32) (m : am_M) : am_c (d + 1) y_C_wall [.ref 0, .int a1] m = (am_b (am_le (zn 0) a1) (am_b (am_le (m.1 71 3) a1) (some (some (.int zq), m)) (am_b (am_oi a1 5) none (some (some (.int (m.1 73 a1.toNatClampNeg)), m)))) (some (some (.int zm), m))) := by
  have h : am_c (d + 1) y_C_wall [.ref 0, .int a1] m = r_C_wall_0 d fu a1 m := by
    rfl
  rw [h, fu_eq]; exact e_C_wall_0 d 29999 a1 m
noncomputable def r_C_known_0 (d n : Nat) (a1 : Int32) (m : am_M) : am_R := am_run am_G true (am_c d) 2 pg_C_known [] n 0 [some (.ref 0), some (.int a1)] m
set_option maxRecDepth 100000 in
theorem e_C_known_0 (d n : Nat) (a1 : Int32) (m : am_M) : r_C_known_0 d (n + 1) a1 m = (am_b (am_lt a1 zm) (some (some (.int (zn 0)), m)) (am_b (am_le a1 (m.1 97 4)) (some (some (.int (zn 1)), (am_w m.1 97 5 a1, m.2))) (some (some (.int (zn 0)), m)))) := rfl
set_option maxRecDepth 100000 in
theorem n_C_known (d : Nat) (a1 : Int32) (m : am_M) : am_c (d + 1) y_C_known [.ref 0, .int a1] m = (am_b (am_lt a1 zm) (some (some (.int (zn 0)), m)) (am_b (am_le a1 (m.1 97 4)) (some (some (.int (zn 1)), (am_w m.1 97 5 a1, m.2))) (some (some (.int (zn 0)), m)))) := by
  have h : am_c (d + 1) y_C_known [.ref 0, .int a1] m = r_C_known_0 d fu a1 m := by
    rfl
  rw [h, fu_eq]; exact e_C_known_0 d 29999 a1 m
noncomputable def r_C_weightOf_0 (d n : Nat) (a1 : Int32) (a2 : Int32) (m : am_M) : am_R := am_run am_G true (am_c d) 3 pg_C_weightOf [5] n 0 [some (.ref 0), some (.int a1), some (.int a2), none, none, none] m
noncomputable def r_C_weightOf_5 (d n : Nat) (x1 : Int32) (x2 : Int32) (x3 : Int64) (x5 : Int32) (m : am_M) : am_R := am_run am_G true (am_c d) 3 pg_C_weightOf [5] n 5 [some (.ref 0), some (.int x1), some (.int x2), some (.long x3), none, some (.int x5)] m
set_option maxRecDepth 100000 in
theorem e_C_weightOf_0 (d n : Nat) (a1 : Int32) (a2 : Int32) (m : am_M) : r_C_weightOf_0 d (n + 1) a1 a2 m = (r_C_weightOf_5 d n a1 a2 1 (zn 0) m) := rfl
set_option maxRecDepth 100000 in
theorem e_C_weightOf_5 (d n : Nat) (x1 : Int32) (x2 : Int32) (x3 : Int64) (x5 : Int32) (m : am_M) : r_C_weightOf_5 d (n + 1) x1 x2 x3 x5 m = (am_b (am_le x2 x5) (some (some (.long x3), m)) (am_b (am_eq ((x1 >>> (x5 &&& 31)) &&& (zn 1)) (zn 1)) (r_C_weightOf_5 d n x1 x2 (x3 * ((m.1 27 15).toInt64)) (x5 + (zn 1)) m) (r_C_weightOf_5 d n x1 x2 (x3 * (((zn 100) - (m.1 27 15)).toInt64)) (x5 + (zn 1)) m))) := rfl
set_option maxRecDepth 100000 in
theorem n_C_weightOf (d : Nat) (a1 : Int32) (a2 : Int32) (m : am_M) : am_c (d + 1) y_C_weightOf [.ref 0, .int a1, .int a2] m = (r_C_weightOf_5 d 29999 a1 a2 1 (zn 0) m) := by
  have h : am_c (d + 1) y_C_weightOf [.ref 0, .int a1, .int a2] m = r_C_weightOf_0 d fu a1 a2 m := by
    rfl
  rw [h, fu_eq]; exact e_C_weightOf_0 d 29999 a1 a2 m
noncomputable def r_C_greatestDivisor_0 (d n : Nat) (a0 : Int64) (a1 : Int64) (m : am_M) : am_R := am_run am_G true (am_c d) 3 pg_C_greatestDivisor [9] n 0 [some (.long a0), none, some (.long a1), none, none, none, none, none, none, none, none] m
noncomputable def r_C_greatestDivisor_9 (d n : Nat) (x0 : Int64) (x2 : Int64) (x4 : Int64) (x6 : Int64) (x8 : Int32) (x9 : Option Value) (m : am_M) : am_R := am_run am_G true (am_c d) 3 pg_C_greatestDivisor [9] n 9 [some (.long x0), none, some (.long x2), none, some (.long x4), none, some (.long x6), none, some (.int x8), x9, none] m
set_option maxRecDepth 100000 in
theorem e_C_greatestDivisor_0 (d n : Nat) (a0 : Int64) (a1 : Int64) (m : am_M) : r_C_greatestDivisor_0 d (n + 1) a0 a1 m = (r_C_greatestDivisor_9 d n a0 a1 a0 a1 (zn 0) none m) := rfl
set_option maxRecDepth 100000 in
theorem e_C_greatestDivisor_9 (d n : Nat) (x0 : Int64) (x2 : Int64) (x4 : Int64) (x6 : Int64) (x8 : Int32) (x9 : Option Value) (m : am_M) : r_C_greatestDivisor_9 d (n + 1) x0 x2 x4 x6 x8 x9 m = (am_b (am_le (zn 100) x8) (some (some (.long x4), m)) (am_b (am_eq (lg_cmp x6 0) (zn 0)) (some (some (.long x4), m)) (am_b (am_el x6 0) none (r_C_greatestDivisor_9 d n x0 x2 x6 (am_reml x4 x6) (x8 + (zn 1)) (some (.long (am_reml x4 x6))) m)))) := rfl
set_option maxRecDepth 100000 in
theorem n_C_greatestDivisor (d : Nat) (a0 : Int64) (a1 : Int64) (m : am_M) : am_c (d + 1) y_C_greatestDivisor [.long a0, .long a1] m = (r_C_greatestDivisor_9 d 29999 a0 a1 a0 a1 (zn 0) none m) := by
  have h : am_c (d + 1) y_C_greatestDivisor [.long a0, .long a1] m = r_C_greatestDivisor_0 d fu a0 a1 m := by
    rfl
  rw [h, fu_eq]; exact e_C_greatestDivisor_0 d 29999 a0 a1 m
noncomputable def r_C_isThing_0 (d n : Nat) (a1 : Int32) (m : am_M) : am_R := am_run am_G true (am_c d) 2 pg_C_isThing [] n 0 [some (.ref 0), some (.int a1)] m
set_option maxRecDepth 100000 in
theorem e_C_isThing_0 (d n : Nat) (a1 : Int32) (m : am_M) : r_C_isThing_0 d (n + 1) a1 m = (am_b (am_lt a1 (zn 0)) (some (some (.int (zn 0)), m)) (am_b (am_le (m.1 27 0) a1) (some (some (.int (zn 0)), m)) (some (some (.int (zn 1)), m)))) := rfl
set_option maxRecDepth 100000 in
theorem n_C_isThing (d : Nat) (a1 : Int32) (m : am_M) : am_c (d + 1) y_C_isThing [.ref 0, .int a1] m = (am_b (am_lt a1 (zn 0)) (some (some (.int (zn 0)), m)) (am_b (am_le (m.1 27 0) a1) (some (some (.int (zn 0)), m)) (some (some (.int (zn 1)), m)))) := by
  have h : am_c (d + 1) y_C_isThing [.ref 0, .int a1] m = r_C_isThing_0 d fu a1 m := by
    rfl
  rw [h, fu_eq]; exact e_C_isThing_0 d 29999 a1 m
noncomputable def r_C_isLamp_0 (d n : Nat) (a1 : Int32) (m : am_M) : am_R := am_run am_G true (am_c d) 2 pg_C_isLamp [] n 0 [some (.ref 0), some (.int a1)] m
set_option maxRecDepth 100000 in
theorem e_C_isLamp_0 (d n : Nat) (a1 : Int32) (m : am_M) : r_C_isLamp_0 d (n + 1) a1 m = (am_b (am_lt a1 (zn 0)) (some (some (.int (zn 0)), m)) (am_b (am_le (m.1 27 8) a1) (some (some (.int (zn 0)), m)) (some (some (.int (zn 1)), m)))) := rfl
set_option maxRecDepth 100000 in
theorem n_C_isLamp (d : Nat) (a1 : Int32) (m : am_M) : am_c (d + 1) y_C_isLamp [.ref 0, .int a1] m = (am_b (am_lt a1 (zn 0)) (some (some (.int (zn 0)), m)) (am_b (am_le (m.1 27 8) a1) (some (some (.int (zn 0)), m)) (some (some (.int (zn 1)), m)))) := by
  have h : am_c (d + 1) y_C_isLamp [.ref 0, .int a1] m = r_C_isLamp_0 d fu a1 m := by
    rfl
  rw [h, fu_eq]; exact e_C_isLamp_0 d 29999 a1 m
noncomputable def r_C_findPair_15_16_0 (d n : Nat) (a2 : Int32) (a3 : Int32) (a4 : Int32) (m : am_M) : am_R := am_run am_G true (am_c d) 1 pg_C_findPair [3] n 0 [some (.ref 15), some (.ref 16), some (.int a2), some (.int a3), some (.int a4), none] m
noncomputable def r_C_findPair_15_16_3 (d n : Nat) (x2 : Int32) (x3 : Int32) (x4 : Int32) (x5 : Int32) (m : am_M) : am_R := am_run am_G true (am_c d) 1 pg_C_findPair [3] n 3 [some (.ref 15), some (.ref 16), some (.int x2), some (.int x3), some (.int x4), some (.int x5)] m
set_option maxRecDepth 100000 in
theorem e_C_findPair_15_16_0 (d n : Nat) (a2 : Int32) (a3 : Int32) (a4 : Int32) (m : am_M) : r_C_findPair_15_16_0 d (n + 1) a2 a3 a4 m = (r_C_findPair_15_16_3 d n a2 a3 a4 (zn 0) m) := rfl
set_option maxRecDepth 100000 in
theorem e_C_findPair_15_16_3 (d n : Nat) (x2 : Int32) (x3 : Int32) (x4 : Int32) (x5 : Int32) (m : am_M) : r_C_findPair_15_16_3 d (n + 1) x2 x3 x4 x5 m = (am_b (am_le x2 x5) (some (some (.int zm), m)) (am_b (am_le (zn 10) x5) (some (some (.int zm), m)) (am_b (am_oi x5 10) none (am_b (am_eq (m.1 15 x5.toNatClampNeg) x3) (am_b (am_oi x5 10) none (am_b (am_eq (m.1 16 x5.toNatClampNeg) x4) (some (some (.int x5), m)) (am_b (am_oi x5 10) none (am_b (am_eq (m.1 15 x5.toNatClampNeg) x4) (am_b (am_oi x5 10) none (am_b (am_eq (m.1 16 x5.toNatClampNeg) x3) (some (some (.int x5), m)) (r_C_findPair_15_16_3 d n x2 x3 x4 (x5 + (zn 1)) m))) (r_C_findPair_15_16_3 d n x2 x3 x4 (x5 + (zn 1)) m))))) (am_b (am_oi x5 10) none (am_b (am_eq (m.1 15 x5.toNatClampNeg) x4) (am_b (am_oi x5 10) none (am_b (am_eq (m.1 16 x5.toNatClampNeg) x3) (some (some (.int x5), m)) (r_C_findPair_15_16_3 d n x2 x3 x4 (x5 + (zn 1)) m))) (r_C_findPair_15_16_3 d n x2 x3 x4 (x5 + (zn 1)) m))))))) := rfl
set_option maxRecDepth 100000 in
theorem n_C_findPair_15_16 (d : Nat) (a2 : Int32) (a3 : Int32) (a4 : Int32) (m : am_M) : am_c (d + 1) y_C_findPair [.ref 15, .ref 16, .int a2, .int a3, .int a4] m = (r_C_findPair_15_16_3 d 29999 a2 a3 a4 (zn 0) m) := by
  have h : am_c (d + 1) y_C_findPair [.ref 15, .ref 16, .int a2, .int a3, .int a4] m = r_C_findPair_15_16_0 d fu a2 a3 a4 m := by
    rfl
  rw [h, fu_eq]; exact e_C_findPair_15_16_0 d 29999 a2 a3 a4 m
noncomputable def r_C_findPair_76_77_0 (d n : Nat) (a2 : Int32) (a3 : Int32) (a4 : Int32) (m : am_M) : am_R := am_run am_G true (am_c d) 1 pg_C_findPair [3] n 0 [some (.ref 76), some (.ref 77), some (.int a2), some (.int a3), some (.int a4), none] m
noncomputable def r_C_findPair_76_77_3 (d n : Nat) (x2 : Int32) (x3 : Int32) (x4 : Int32) (x5 : Int32) (m : am_M) : am_R := am_run am_G true (am_c d) 1 pg_C_findPair [3] n 3 [some (.ref 76), some (.ref 77), some (.int x2), some (.int x3), some (.int x4), some (.int x5)] m
set_option maxRecDepth 100000 in
theorem e_C_findPair_76_77_0 (d n : Nat) (a2 : Int32) (a3 : Int32) (a4 : Int32) (m : am_M) : r_C_findPair_76_77_0 d (n + 1) a2 a3 a4 m = (r_C_findPair_76_77_3 d n a2 a3 a4 (zn 0) m) := rfl
set_option maxRecDepth 100000 in
theorem e_C_findPair_76_77_3 (d n : Nat) (x2 : Int32) (x3 : Int32) (x4 : Int32) (x5 : Int32) (m : am_M) : r_C_findPair_76_77_3 d (n + 1) x2 x3 x4 x5 m = (am_b (am_le x2 x5) (some (some (.int zm), m)) (am_b (am_le (zn 10) x5) (some (some (.int zm), m)) (am_b (am_oi x5 10) none (am_b (am_eq (m.1 76 x5.toNatClampNeg) x3) (am_b (am_oi x5 10) none (am_b (am_eq (m.1 77 x5.toNatClampNeg) x4) (some (some (.int x5), m)) (am_b (am_oi x5 10) none (am_b (am_eq (m.1 76 x5.toNatClampNeg) x4) (am_b (am_oi x5 10) none (am_b (am_eq (m.1 77 x5.toNatClampNeg) x3) (some (some (.int x5), m)) (r_C_findPair_76_77_3 d n x2 x3 x4 (x5 + (zn 1)) m))) (r_C_findPair_76_77_3 d n x2 x3 x4 (x5 + (zn 1)) m))))) (am_b (am_oi x5 10) none (am_b (am_eq (m.1 76 x5.toNatClampNeg) x4) (am_b (am_oi x5 10) none (am_b (am_eq (m.1 77 x5.toNatClampNeg) x3) (some (some (.int x5), m)) (r_C_findPair_76_77_3 d n x2 x3 x4 (x5 + (zn 1)) m))) (r_C_findPair_76_77_3 d n x2 x3 x4 (x5 + (zn 1)) m))))))) := rfl
set_option maxRecDepth 100000 in
theorem n_C_findPair_76_77 (d : Nat) (a2 : Int32) (a3 : Int32) (a4 : Int32) (m : am_M) : am_c (d + 1) y_C_findPair [.ref 76, .ref 77, .int a2, .int a3, .int a4] m = (r_C_findPair_76_77_3 d 29999 a2 a3 a4 (zn 0) m) := by
  have h : am_c (d + 1) y_C_findPair [.ref 76, .ref 77, .int a2, .int a3, .int a4] m = r_C_findPair_76_77_0 d fu a2 a3 a4 m := by
    rfl
  rw [h, fu_eq]; exact e_C_findPair_76_77_0 d 29999 a2 a3 a4 m
noncomputable def r_C_isPlace_0 (d n : Nat) (a0 : Int32) (m : am_M) : am_R := am_run am_G true (am_c d) 2 pg_C_isPlace [] n 0 [some (.int a0)] m
set_option maxRecDepth 100000 in
theorem e_C_isPlace_0 (d n : Nat) (a0 : Int32) (m : am_M) : r_C_isPlace_0 d (n + 1) a0 m = (am_b (am_lt a0 (zn 0)) (some (some (.int (zn 0)), m)) (am_b (am_lt (zn 29) a0) (some (some (.int (zn 0)), m)) (some (some (.int (zn 1)), m)))) := rfl
set_option maxRecDepth 100000 in
theorem n_C_isPlace (d : Nat) (a0 : Int32) (m : am_M) : am_c (d + 1) y_C_isPlace [.int a0] m = (am_b (am_lt a0 (zn 0)) (some (some (.int (zn 0)), m)) (am_b (am_lt (zn 29) a0) (some (some (.int (zn 0)), m)) (some (some (.int (zn 1)), m)))) := by
  have h : am_c (d + 1) y_C_isPlace [.int a0] m = r_C_isPlace_0 d fu a0 m := by
    rfl
  rw [h, fu_eq]; exact e_C_isPlace_0 d 29999 a0 m
noncomputable def r_C_isShape_0 (d n : Nat) (a0 : Int32) (m : am_M) : am_R := am_run am_G true (am_c d) 2 pg_C_isShape [] n 0 [some (.int a0)] m
set_option maxRecDepth 100000 in
theorem e_C_isShape_0 (d n : Nat) (a0 : Int32) (m : am_M) : r_C_isShape_0 d (n + 1) a0 m = (am_b (am_lt a0 (zn 0)) (some (some (.int (zn 0)), m)) (am_b (am_lt (zn 511) a0) (some (some (.int (zn 0)), m)) (some (some (.int (zn 1)), m)))) := rfl
set_option maxRecDepth 100000 in
theorem n_C_isShape (d : Nat) (a0 : Int32) (m : am_M) : am_c (d + 1) y_C_isShape [.int a0] m = (am_b (am_lt a0 (zn 0)) (some (some (.int (zn 0)), m)) (am_b (am_lt (zn 511) a0) (some (some (.int (zn 0)), m)) (some (some (.int (zn 1)), m)))) := by
  have h : am_c (d + 1) y_C_isShape [.int a0] m = r_C_isShape_0 d fu a0 m := by
    rfl
  rw [h, fu_eq]; exact e_C_isShape_0 d 29999 a0 m
noncomputable def r_M_thrown_0 (d n : Nat) (m : am_M) : am_R := am_run am_G true (am_c d) 1 pg_M_thrown [] n 0 [some (.ref 107)] m
set_option maxRecDepth 100000 in
theorem e_M_thrown_0 (d n : Nat) (m : am_M) : r_M_thrown_0 d (n + 1) m = (some (some (.int (m.1 107 2)), m)) := rfl
set_option maxRecDepth 100000 in
theorem n_M_thrown (d : Nat) (m : am_M) : am_c (d + 1) y_M_thrown [.ref 107] m = (some (some (.int (m.1 107 2)), m)) := by
  have h : am_c (d + 1) y_M_thrown [.ref 107] m = r_M_thrown_0 d fu m := by
    rfl
  rw [h, fu_eq]; exact e_M_thrown_0 d 29999 m
noncomputable def r_M_feed_0 (d n : Nat) (a1 : Int32) (a2 : Int32) (a3 : Int32) (a4 : Int32) (a5 : Int32) (m : am_M) : am_R := am_run am_G true (am_c d) 1 pg_M_feed [23] n 0 [some (.ref 107), some (.int a1), some (.int a2), some (.int a3), some (.int a4), some (.int a5), none, none] m
noncomputable def r_M_feed_23 (d n : Nat) (x1 : Int32) (x2 : Int32) (x3 : Int32) (x4 : Int32) (x5 : Int32) (x6 : Int32) (x7 : Option Value) (m : am_M) : am_R := am_run am_G true (am_c d) 1 pg_M_feed [23] n 23 [some (.ref 107), some (.int x1), some (.int x2), some (.int x3), some (.int x4), some (.int x5), some (.int x6), x7] m
set_option maxRecDepth 100000 in
theorem e_M_feed_0 (d n : Nat) (a1 : Int32) (a2 : Int32) (a3 : Int32) (a4 : Int32) (a5 : Int32) (m : am_M) : r_M_feed_0 d (n + 1) a1 a2 a3 a4 a5 m = (am_b (am_le ((m.1 107 1) + (zn 20)) (zn 700)) (r_M_feed_23 d n a1 a2 a3 a4 a5 (zn 0) none (am_w m.1 107 2 (zn 0), m.2)) (some (some (.int zm), (am_w m.1 107 2 (zn 0), m.2)))) := rfl
set_option maxRecDepth 100000 in
theorem e_M_feed_23 (d n : Nat) (x1 : Int32) (x2 : Int32) (x3 : Int32) (x4 : Int32) (x5 : Int32) (x6 : Int32) (x7 : Option Value) (m : am_M) : r_M_feed_23 d (n + 1) x1 x2 x3 x4 x5 x6 x7 m = (am_b (am_le (zn 20) x6) (some (some (.int ((m.1 107 1) + (zn 20))), (am_w m.1 107 1 ((m.1 107 1) + (zn 20)), m.2))) (am_b (am_le (zn 4) x6) (am_b (am_le (zn 8) x6) (am_b (am_le (zn 12) x6) (am_b (am_le (zn 16) x6) (am_b (am_oi ((m.1 107 1) + x6) 700) none (r_M_feed_23 d n x1 x2 x3 x4 x5 (x6 + (zn 1)) (some (.int x5)) (am_w m.1 108 (((m.1 107 1) + x6).toNatClampNeg) ((x5 >>> (((zn 24) - ((zn 8) * (am_rem x6 (zn 4)))) &&& 31)) &&& (zn 255)), m.2))) (am_b (am_oi ((m.1 107 1) + x6) 700) none (r_M_feed_23 d n x1 x2 x3 x4 x5 (x6 + (zn 1)) (some (.int x4)) (am_w m.1 108 (((m.1 107 1) + x6).toNatClampNeg) ((x4 >>> (((zn 24) - ((zn 8) * (am_rem x6 (zn 4)))) &&& 31)) &&& (zn 255)), m.2)))) (am_b (am_oi ((m.1 107 1) + x6) 700) none (r_M_feed_23 d n x1 x2 x3 x4 x5 (x6 + (zn 1)) (some (.int x3)) (am_w m.1 108 (((m.1 107 1) + x6).toNatClampNeg) ((x3 >>> (((zn 24) - ((zn 8) * (am_rem x6 (zn 4)))) &&& 31)) &&& (zn 255)), m.2)))) (am_b (am_oi ((m.1 107 1) + x6) 700) none (r_M_feed_23 d n x1 x2 x3 x4 x5 (x6 + (zn 1)) (some (.int x2)) (am_w m.1 108 (((m.1 107 1) + x6).toNatClampNeg) ((x2 >>> (((zn 24) - ((zn 8) * (am_rem x6 (zn 4)))) &&& 31)) &&& (zn 255)), m.2)))) (am_b (am_oi ((m.1 107 1) + x6) 700) none (r_M_feed_23 d n x1 x2 x3 x4 x5 (x6 + (zn 1)) (some (.int x1)) (am_w m.1 108 (((m.1 107 1) + x6).toNatClampNeg) ((x1 >>> (((zn 24) - ((zn 8) * (am_rem x6 (zn 4)))) &&& 31)) &&& (zn 255)), m.2))))) := rfl
set_option maxRecDepth 100000 in
theorem n_M_feed (d : Nat) (a1 : Int32) (a2 : Int32) (a3 : Int32) (a4 : Int32) (a5 : Int32) (m : am_M) : am_c (d + 1) y_M_feed [.ref 107, .int a1, .int a2, .int a3, .int a4, .int a5] m = (am_b (am_le ((m.1 107 1) + (zn 20)) (zn 700)) (r_M_feed_23 d 29999 a1 a2 a3 a4 a5 (zn 0) none (am_w m.1 107 2 (zn 0), m.2)) (some (some (.int zm), (am_w m.1 107 2 (zn 0), m.2)))) := by
  have h : am_c (d + 1) y_M_feed [.ref 107, .int a1, .int a2, .int a3, .int a4, .int a5] m = r_M_feed_0 d fu a1 a2 a3 a4 a5 m := by
    rfl
  rw [h, fu_eq]; exact e_M_feed_0 d 29999 a1 a2 a3 a4 a5 m
noncomputable def r_M_isIn_0 (d n : Nat) (a0 : Int32) (a1 : Int32) (a2 : Int32) (m : am_M) : am_R := am_run am_G true (am_c d) 2 pg_M_isIn [] n 0 [some (.int a0), some (.int a1), some (.int a2)] m
set_option maxRecDepth 100000 in
theorem e_M_isIn_0 (d n : Nat) (a0 : Int32) (a1 : Int32) (a2 : Int32) (m : am_M) : r_M_isIn_0 d (n + 1) a0 a1 a2 m = (am_b (am_lt a0 a1) (some (some (.int (zn 0)), m)) (am_b (am_lt a2 a0) (some (some (.int (zn 0)), m)) (some (some (.int (zn 1)), m)))) := rfl
set_option maxRecDepth 100000 in
theorem n_M_isIn (d : Nat) (a0 : Int32) (a1 : Int32) (a2 : Int32) (m : am_M) : am_c (d + 1) y_M_isIn [.int a0, .int a1, .int a2] m = (am_b (am_lt a0 a1) (some (some (.int (zn 0)), m)) (am_b (am_lt a2 a0) (some (some (.int (zn 0)), m)) (some (some (.int (zn 1)), m)))) := by
  have h : am_c (d + 1) y_M_isIn [.int a0, .int a1, .int a2] m = r_M_isIn_0 d fu a0 a1 a2 m := by
    rfl
  rw [h, fu_eq]; exact e_M_isIn_0 d 29999 a0 a1 a2 m
noncomputable def r_M_isOf_0 (d n : Nat) (a0 : Int32) (a1 : Int32) (m : am_M) : am_R := am_run am_G true (am_c d) 2 pg_M_isOf [] n 0 [some (.int a0), some (.int a1)] m
set_option maxRecDepth 100000 in
theorem e_M_isOf_0 (d n : Nat) (a0 : Int32) (a1 : Int32) (m : am_M) : r_M_isOf_0 d (n + 1) a0 a1 m = (am_b (am_eq ((a0 >>> (a1 &&& 31)) &&& (zn 1)) (zn 1)) (some (some (.int (zn 1)), m)) (some (some (.int (zn 0)), m))) := rfl
set_option maxRecDepth 100000 in
theorem n_M_isOf (d : Nat) (a0 : Int32) (a1 : Int32) (m : am_M) : am_c (d + 1) y_M_isOf [.int a0, .int a1] m = (am_b (am_eq ((a0 >>> (a1 &&& 31)) &&& (zn 1)) (zn 1)) (some (some (.int (zn 1)), m)) (some (some (.int (zn 0)), m))) := by
  have h : am_c (d + 1) y_M_isOf [.int a0, .int a1] m = r_M_isOf_0 d fu a0 a1 m := by
    rfl
  rw [h, fu_eq]; exact e_M_isOf_0 d 29999 a0 a1 m
noncomputable def r_M_wrong_0 (d n : Nat) (a1 : Int32) (m : am_M) : am_R := am_run am_G true (am_c d) 2 pg_M_wrong [] n 0 [some (.ref 107), some (.int a1)] m
set_option maxRecDepth 100000 in
theorem e_M_wrong_0 (d n : Nat) (a1 : Int32) (m : am_M) : r_M_wrong_0 d (n + 1) a1 m = (some (some (.int (zn 0)), (am_w (am_w m.1 107 4 a1) 107 5 (m.1 107 10), m.2))) := rfl
set_option maxRecDepth 100000 in
theorem n_M_wrong (d : Nat) (a1 : Int32) (m : am_M) : am_c (d + 1) y_M_wrong [.ref 107, .int a1] m = (some (some (.int (zn 0)), (am_w (am_w m.1 107 4 a1) 107 5 (m.1 107 10), m.2))) := by
  have h : am_c (d + 1) y_M_wrong [.ref 107, .int a1] m = r_M_wrong_0 d fu a1 m := by
    rfl
  rw [h, fu_eq]; exact e_M_wrong_0 d 29999 a1 m
noncomputable def r_M_wordAt_0 (d n : Nat) (a1 : Int32) (a2 : Int32) (m : am_M) : am_R := am_run am_G true (am_c d) 1 pg_M_wordAt [5,18,57] n 0 [some (.ref 107), some (.int a1), some (.int a2), none, none, none, none, none] m
noncomputable def r_M_wordAt_5 (d n : Nat) (x1 : Int32) (x2 : Int32) (x3 : Int32) (x4 : Int32) (x5 : Option Value) (x6 : Option Value) (x7 : Option Value) (m : am_M) : am_R := am_run am_G true (am_c d) 1 pg_M_wordAt [5,18,57] n 5 [some (.ref 107), some (.int x1), some (.int x2), some (.int x3), some (.int x4), x5, x6, x7] m
noncomputable def r_M_wordAt_18 (d n : Nat) (x1 : Int32) (x2 : Int32) (x3 : Int32) (x4 : Int32) (x5 : Int32) (x6 : Option Value) (x7 : Option Value) (m : am_M) : am_R := am_run am_G true (am_c d) 1 pg_M_wordAt [5,18,57] n 18 [some (.ref 107), some (.int x1), some (.int x2), some (.int x3), some (.int x4), some (.int x5), x6, x7] m
noncomputable def r_M_wordAt_57 (d n : Nat) (x1 : Int32) (x2 : Int32) (x3 : Int32) (x4 : Int32) (x5 : Int32) (x6 : Int32) (x7 : Int32) (m : am_M) : am_R := am_run am_G true (am_c d) 1 pg_M_wordAt [5,18,57] n 57 [some (.ref 107), some (.int x1), some (.int x2), some (.int x3), some (.int x4), some (.int x5), some (.int x6), some (.int x7)] m
set_option maxRecDepth 100000 in
theorem e_M_wordAt_0 (d n : Nat) (a1 : Int32) (a2 : Int32) (m : am_M) : r_M_wordAt_0 d (n + 1) a1 a2 m = (r_M_wordAt_5 d n a1 a2 (zn 0) (zn 0) none none none m) := rfl
set_option maxRecDepth 100000 in
theorem e_M_wordAt_5 (d n : Nat) (x1 : Int32) (x2 : Int32) (x3 : Int32) (x4 : Int32) (x5 : Option Value) (x6 : Option Value) (x7 : Option Value) (m : am_M) : r_M_wordAt_5 d (n + 1) x1 x2 x3 x4 x5 x6 x7 m = (am_b (am_le (zn 121) x4) (some (some (.int zm), m)) (r_M_wordAt_18 d n x1 x2 x3 x4 (zn 0) x6 x7 m)) := rfl
set_option maxRecDepth 100000 in
theorem e_M_wordAt_18 (d n : Nat) (x1 : Int32) (x2 : Int32) (x3 : Int32) (x4 : Int32) (x5 : Int32) (x6 : Option Value) (x7 : Option Value) (m : am_M) : r_M_wordAt_18 d (n + 1) x1 x2 x3 x4 x5 x6 x7 m = (am_b (am_oi (x4 + x5) 121) none (am_b (am_eq (m.1 109 ((x4 + x5).toNatClampNeg)) (zn 32)) (am_b (am_eq x5 (x2 - x1)) (r_M_wordAt_57 d n x1 x2 x3 x4 x5 (zn 1) (zn 0) m) (r_M_wordAt_57 d n x1 x2 x3 x4 x5 (zn 0) (zn 0) m)) (r_M_wordAt_18 d n x1 x2 x3 x4 (x5 + (zn 1)) x6 x7 m))) := rfl
set_option maxRecDepth 100000 in
theorem e_M_wordAt_57 (d n : Nat) (x1 : Int32) (x2 : Int32) (x3 : Int32) (x4 : Int32) (x5 : Int32) (x6 : Int32) (x7 : Int32) (m : am_M) : r_M_wordAt_57 d (n + 1) x1 x2 x3 x4 x5 x6 x7 m = (am_b (am_le x5 x7) (am_b (am_eq x6 (zn 0)) (r_M_wordAt_5 d n x1 x2 (x3 + (zn 1)) (x4 + (x5 + (zn 1))) (some (.int x5)) (some (.int x6)) (some (.int x7)) m) (some (some (.int x3), m))) (am_b (am_eq x6 (zn 0)) (am_b (am_eq x6 (zn 0)) (r_M_wordAt_5 d n x1 x2 (x3 + (zn 1)) (x4 + (x5 + (zn 1))) (some (.int x5)) (some (.int x6)) (some (.int x7)) m) (some (some (.int x3), m))) (am_b (am_oi (x4 + x7) 121) none (am_b (am_oi (x1 + x7) 700) none (am_b (am_eq (m.1 109 ((x4 + x7).toNatClampNeg)) (m.1 108 ((x1 + x7).toNatClampNeg))) (r_M_wordAt_57 d n x1 x2 x3 x4 x5 (zn 1) (x7 + (zn 1)) m) (r_M_wordAt_57 d n x1 x2 x3 x4 x5 (zn 0) (x7 + (zn 1)) m)))))) := rfl
set_option maxRecDepth 100000 in
theorem n_M_wordAt (d : Nat) (a1 : Int32) (a2 : Int32) (m : am_M) : am_c (d + 1) y_M_wordAt [.ref 107, .int a1, .int a2] m = (r_M_wordAt_5 d 29999 a1 a2 (zn 0) (zn 0) none none none m) := by
  have h : am_c (d + 1) y_M_wordAt [.ref 107, .int a1, .int a2] m = r_M_wordAt_0 d fu a1 a2 m := by
    rfl
  rw [h, fu_eq]; exact e_M_wordAt_0 d 29999 a1 a2 m
noncomputable def r_M_isSmall_0 (d n : Nat) (a1 : Int32) (m : am_M) : am_R := am_run am_G true (am_c d) 2 pg_M_isSmall [] n 0 [some (.ref 107), some (.int a1)] m
set_option maxRecDepth 100000 in
theorem e_M_isSmall_0 (d n : Nat) (a1 : Int32) (m : am_M) : r_M_isSmall_0 d (n + 1) a1 m = (am_b (am_le (m.1 107 6) a1) (some (some (.int (zn 0)), m)) (am_b (am_oi a1 700) none (am_b (am_lt (m.1 108 a1.toNatClampNeg) (zn 97)) (some (some (.int (zn 0)), m)) (am_b (am_oi a1 700) none (am_b (am_lt (zn 122) (m.1 108 a1.toNatClampNeg)) (some (some (.int (zn 0)), m)) (some (some (.int (zn 1)), m))))))) := rfl
set_option maxRecDepth 100000 in
theorem n_M_isSmall (d : Nat) (a1 : Int32) (m : am_M) : am_c (d + 1) y_M_isSmall [.ref 107, .int a1] m = (am_b (am_le (m.1 107 6) a1) (some (some (.int (zn 0)), m)) (am_b (am_oi a1 700) none (am_b (am_lt (m.1 108 a1.toNatClampNeg) (zn 97)) (some (some (.int (zn 0)), m)) (am_b (am_oi a1 700) none (am_b (am_lt (zn 122) (m.1 108 a1.toNatClampNeg)) (some (some (.int (zn 0)), m)) (some (some (.int (zn 1)), m))))))) := by
  have h : am_c (d + 1) y_M_isSmall [.ref 107, .int a1] m = r_M_isSmall_0 d fu a1 m := by
    rfl
  rw [h, fu_eq]; exact e_M_isSmall_0 d 29999 a1 m
noncomputable def r_M_isDigit_0 (d n : Nat) (a1 : Int32) (m : am_M) : am_R := am_run am_G true (am_c d) 2 pg_M_isDigit [] n 0 [some (.ref 107), some (.int a1)] m
set_option maxRecDepth 100000 in
theorem e_M_isDigit_0 (d n : Nat) (a1 : Int32) (m : am_M) : r_M_isDigit_0 d (n + 1) a1 m = (am_b (am_le (m.1 107 6) a1) (some (some (.int (zn 0)), m)) (am_b (am_oi a1 700) none (am_b (am_lt (m.1 108 a1.toNatClampNeg) (zn 48)) (some (some (.int (zn 0)), m)) (am_b (am_oi a1 700) none (am_b (am_lt (zn 57) (m.1 108 a1.toNatClampNeg)) (some (some (.int (zn 0)), m)) (some (some (.int (zn 1)), m))))))) := rfl
set_option maxRecDepth 100000 in
theorem n_M_isDigit (d : Nat) (a1 : Int32) (m : am_M) : am_c (d + 1) y_M_isDigit [.ref 107, .int a1] m = (am_b (am_le (m.1 107 6) a1) (some (some (.int (zn 0)), m)) (am_b (am_oi a1 700) none (am_b (am_lt (m.1 108 a1.toNatClampNeg) (zn 48)) (some (some (.int (zn 0)), m)) (am_b (am_oi a1 700) none (am_b (am_lt (zn 57) (m.1 108 a1.toNatClampNeg)) (some (some (.int (zn 0)), m)) (some (some (.int (zn 1)), m))))))) := by
  have h : am_c (d + 1) y_M_isDigit [.ref 107, .int a1] m = r_M_isDigit_0 d fu a1 m := by
    rfl
  rw [h, fu_eq]; exact e_M_isDigit_0 d 29999 a1 m
noncomputable def r_M_signToken_0 (d n : Nat) (m : am_M) : am_R := am_run am_G true (am_c d) 0 pg_M_signToken [50,94,115,125,135,270] n 0 [some (.ref 107), none, none, none] m
noncomputable def r_M_signToken_50 (d n : Nat) (m : am_M) : am_R := am_run am_G true (am_c d) 0 pg_M_signToken [50,94,115,125,135,270] n 50 [some (.ref 107), none, none, none] m
noncomputable def r_M_signToken_94 (d n : Nat) (x1 : Int32) (m : am_M) : am_R := am_run am_G true (am_c d) 0 pg_M_signToken [50,94,115,125,135,270] n 94 [some (.ref 107), some (.int x1), none, none] m
noncomputable def r_M_signToken_115 (d n : Nat) (x1 : Int32) (x2 : Int32) (m : am_M) : am_R := am_run am_G true (am_c d) 0 pg_M_signToken [50,94,115,125,135,270] n 115 [some (.ref 107), some (.int x1), some (.int x2), none] m
noncomputable def r_M_signToken_125 (d n : Nat) (x1 : Int32) (x2 : Int32) (x3 : Int32) (m : am_M) : am_R := am_run am_G true (am_c d) 0 pg_M_signToken [50,94,115,125,135,270] n 125 [some (.ref 107), some (.int x1), some (.int x2), some (.int x3)] m
noncomputable def r_M_signToken_135 (d n : Nat) (x1 : Int32) (x2 : Int32) (x3 : Int32) (m : am_M) : am_R := am_run am_G true (am_c d) 0 pg_M_signToken [50,94,115,125,135,270] n 135 [some (.ref 107), some (.int x1), some (.int x2), some (.int x3)] m
noncomputable def r_M_signToken_270 (d n : Nat) (m : am_M) : am_R := am_run am_G true (am_c d) 0 pg_M_signToken [50,94,115,125,135,270] n 270 [some (.ref 107), none, none, none] m
set_option maxRecDepth 100000 in
theorem e_M_signToken_0 (d n : Nat) (m : am_M) : r_M_signToken_0 d (n + 1) m = (am_b (am_oi (m.1 107 7) 700) none (am_b (am_eq (m.1 108 ((m.1 107 7).toNatClampNeg)) (zn 60)) (r_M_signToken_50 d n (am_w (am_w m.1 107 9 (m.1 108 ((m.1 107 7).toNatClampNeg))) 107 7 ((m.1 107 7) + (zn 1)), m.2)) (am_b (am_eq (m.1 108 ((m.1 107 7).toNatClampNeg)) (zn 62)) (r_M_signToken_50 d n (am_w (am_w m.1 107 9 (m.1 108 ((m.1 107 7).toNatClampNeg))) 107 7 ((m.1 107 7) + (zn 1)), m.2)) (am_b (am_eq (m.1 108 ((m.1 107 7).toNatClampNeg)) (zn 61)) (r_M_signToken_50 d n (am_w (am_w m.1 107 9 (m.1 108 ((m.1 107 7).toNatClampNeg))) 107 7 ((m.1 107 7) + (zn 1)), m.2)) (am_b (am_eq (m.1 108 ((m.1 107 7).toNatClampNeg)) (zn 59)) (r_M_signToken_270 d n (am_w (am_w m.1 107 9 (m.1 108 ((m.1 107 7).toNatClampNeg))) 107 7 ((m.1 107 7) + (zn 1)), m.2)) (am_b (am_eq (m.1 108 ((m.1 107 7).toNatClampNeg)) (zn 40)) (r_M_signToken_270 d n (am_w (am_w m.1 107 9 (m.1 108 ((m.1 107 7).toNatClampNeg))) 107 7 ((m.1 107 7) + (zn 1)), m.2)) (am_b (am_eq (m.1 108 ((m.1 107 7).toNatClampNeg)) (zn 41)) (r_M_signToken_270 d n (am_w (am_w m.1 107 9 (m.1 108 ((m.1 107 7).toNatClampNeg))) 107 7 ((m.1 107 7) + (zn 1)), m.2)) (am_b (am_eq (m.1 108 ((m.1 107 7).toNatClampNeg)) (zn 43)) (r_M_signToken_270 d n (am_w (am_w m.1 107 9 (m.1 108 ((m.1 107 7).toNatClampNeg))) 107 7 ((m.1 107 7) + (zn 1)), m.2)) (am_b (am_eq (m.1 108 ((m.1 107 7).toNatClampNeg)) (zn 45)) (r_M_signToken_270 d n (am_w (am_w m.1 107 9 (m.1 108 ((m.1 107 7).toNatClampNeg))) 107 7 ((m.1 107 7) + (zn 1)), m.2)) (am_b (am_eq (m.1 108 ((m.1 107 7).toNatClampNeg)) (zn 42)) (r_M_signToken_270 d n (am_w (am_w m.1 107 9 (m.1 108 ((m.1 107 7).toNatClampNeg))) 107 7 ((m.1 107 7) + (zn 1)), m.2)) (am_b (am_eq (m.1 108 ((m.1 107 7).toNatClampNeg)) (zn 47)) (r_M_signToken_270 d n (am_w (am_w m.1 107 9 (m.1 108 ((m.1 107 7).toNatClampNeg))) 107 7 ((m.1 107 7) + (zn 1)), m.2)) (am_b (am_eq (m.1 108 ((m.1 107 7).toNatClampNeg)) (zn 37)) (r_M_signToken_270 d n (am_w (am_w m.1 107 9 (m.1 108 ((m.1 107 7).toNatClampNeg))) 107 7 ((m.1 107 7) + (zn 1)), m.2)) (some (none, (am_w (am_w (am_w m.1 107 9 (m.1 108 ((m.1 107 7).toNatClampNeg))) 107 7 ((m.1 107 7) + (zn 1))) 107 8 (zn 6), m.2))))))))))))))) := rfl
set_option maxRecDepth 100000 in
theorem e_M_signToken_50 (d n : Nat) (m : am_M) : r_M_signToken_50 d (n + 1) m = (am_b (am_le (m.1 107 6) (m.1 107 7)) (am_b (am_eq (m.1 107 9) (zn 61)) (r_M_signToken_94 d n (zn 0) m) (r_M_signToken_94 d n (zn 0) m)) (am_b (am_oi (m.1 107 7) 700) none (am_b (am_eq (m.1 107 9) (zn 61)) (r_M_signToken_94 d n (m.1 108 ((m.1 107 7).toNatClampNeg)) m) (am_b (am_eq (m.1 108 ((m.1 107 7).toNatClampNeg)) (zn 61)) (am_b (am_eq (m.1 107 9) (zn 60)) (am_b (am_eq (m.1 108 ((m.1 107 7).toNatClampNeg)) (zn 62)) (r_M_signToken_125 d n (m.1 108 ((m.1 107 7).toNatClampNeg)) (zn 1) (zn 1) m) (r_M_signToken_115 d n (m.1 108 ((m.1 107 7).toNatClampNeg)) (zn 1) m)) (r_M_signToken_115 d n (m.1 108 ((m.1 107 7).toNatClampNeg)) (zn 1) m)) (r_M_signToken_94 d n (m.1 108 ((m.1 107 7).toNatClampNeg)) m))))) := rfl
set_option maxRecDepth 100000 in
theorem e_M_signToken_94 (d n : Nat) (x1 : Int32) (m : am_M) : r_M_signToken_94 d (n + 1) x1 m = (am_b (am_eq (m.1 107 9) (zn 60)) (am_b (am_eq x1 (zn 62)) (r_M_signToken_125 d n x1 (zn 0) (zn 1) m) (r_M_signToken_115 d n x1 (zn 0) m)) (r_M_signToken_115 d n x1 (zn 0) m)) := rfl
set_option maxRecDepth 100000 in
theorem e_M_signToken_115 (d n : Nat) (x1 : Int32) (x2 : Int32) (m : am_M) : r_M_signToken_115 d (n + 1) x1 x2 m = (am_b (am_eq x2 (zn 0)) (r_M_signToken_135 d n x1 x2 (zn 0) m) (r_M_signToken_125 d n x1 x2 (zn 0) m)) := rfl
set_option maxRecDepth 100000 in
theorem e_M_signToken_125 (d n : Nat) (x1 : Int32) (x2 : Int32) (x3 : Int32) (m : am_M) : r_M_signToken_125 d (n + 1) x1 x2 x3 m = (r_M_signToken_135 d n x1 x2 x3 (am_w m.1 107 7 ((m.1 107 7) + (zn 1)), m.2)) := rfl
set_option maxRecDepth 100000 in
theorem e_M_signToken_135 (d n : Nat) (x1 : Int32) (x2 : Int32) (x3 : Int32) (m : am_M) : r_M_signToken_135 d (n + 1) x1 x2 x3 m = (am_b (am_eq (m.1 107 9) (zn 61)) (some (none, (am_w (am_w m.1 107 8 (zn 5)) 107 9 (zn 2), m.2))) (am_b (am_eq (m.1 107 9) (zn 60)) (am_b (am_eq x2 (zn 0)) (am_b (am_eq x3 (zn 0)) (some (none, (am_w (am_w m.1 107 8 (zn 5)) 107 9 (zn 0), m.2))) (some (none, (am_w (am_w m.1 107 8 (zn 5)) 107 9 (zn 3), m.2)))) (some (none, (am_w (am_w m.1 107 8 (zn 5)) 107 9 (zn 1), m.2)))) (am_b (am_eq x2 (zn 0)) (some (none, (am_w (am_w m.1 107 8 (zn 5)) 107 9 (zn 5), m.2))) (some (none, (am_w (am_w m.1 107 8 (zn 5)) 107 9 (zn 4), m.2)))))) := rfl
set_option maxRecDepth 100000 in
theorem e_M_signToken_270 (d n : Nat) (m : am_M) : r_M_signToken_270 d (n + 1) m = (some (none, (am_w m.1 107 8 (zn 4), m.2))) := rfl
set_option maxRecDepth 100000 in
theorem n_M_signToken (d : Nat) (m : am_M) : am_c (d + 1) y_M_signToken [.ref 107] m = (am_b (am_oi (m.1 107 7) 700) none (am_b (am_eq (m.1 108 ((m.1 107 7).toNatClampNeg)) (zn 60)) (r_M_signToken_50 d 29999 (am_w (am_w m.1 107 9 (m.1 108 ((m.1 107 7).toNatClampNeg))) 107 7 ((m.1 107 7) + (zn 1)), m.2)) (am_b (am_eq (m.1 108 ((m.1 107 7).toNatClampNeg)) (zn 62)) (r_M_signToken_50 d 29999 (am_w (am_w m.1 107 9 (m.1 108 ((m.1 107 7).toNatClampNeg))) 107 7 ((m.1 107 7) + (zn 1)), m.2)) (am_b (am_eq (m.1 108 ((m.1 107 7).toNatClampNeg)) (zn 61)) (r_M_signToken_50 d 29999 (am_w (am_w m.1 107 9 (m.1 108 ((m.1 107 7).toNatClampNeg))) 107 7 ((m.1 107 7) + (zn 1)), m.2)) (am_b (am_eq (m.1 108 ((m.1 107 7).toNatClampNeg)) (zn 59)) (r_M_signToken_270 d 29999 (am_w (am_w m.1 107 9 (m.1 108 ((m.1 107 7).toNatClampNeg))) 107 7 ((m.1 107 7) + (zn 1)), m.2)) (am_b (am_eq (m.1 108 ((m.1 107 7).toNatClampNeg)) (zn 40)) (r_M_signToken_270 d 29999 (am_w (am_w m.1 107 9 (m.1 108 ((m.1 107 7).toNatClampNeg))) 107 7 ((m.1 107 7) + (zn 1)), m.2)) (am_b (am_eq (m.1 108 ((m.1 107 7).toNatClampNeg)) (zn 41)) (r_M_signToken_270 d 29999 (am_w (am_w m.1 107 9 (m.1 108 ((m.1 107 7).toNatClampNeg))) 107 7 ((m.1 107 7) + (zn 1)), m.2)) (am_b (am_eq (m.1 108 ((m.1 107 7).toNatClampNeg)) (zn 43)) (r_M_signToken_270 d 29999 (am_w (am_w m.1 107 9 (m.1 108 ((m.1 107 7).toNatClampNeg))) 107 7 ((m.1 107 7) + (zn 1)), m.2)) (am_b (am_eq (m.1 108 ((m.1 107 7).toNatClampNeg)) (zn 45)) (r_M_signToken_270 d 29999 (am_w (am_w m.1 107 9 (m.1 108 ((m.1 107 7).toNatClampNeg))) 107 7 ((m.1 107 7) + (zn 1)), m.2)) (am_b (am_eq (m.1 108 ((m.1 107 7).toNatClampNeg)) (zn 42)) (r_M_signToken_270 d 29999 (am_w (am_w m.1 107 9 (m.1 108 ((m.1 107 7).toNatClampNeg))) 107 7 ((m.1 107 7) + (zn 1)), m.2)) (am_b (am_eq (m.1 108 ((m.1 107 7).toNatClampNeg)) (zn 47)) (r_M_signToken_270 d 29999 (am_w (am_w m.1 107 9 (m.1 108 ((m.1 107 7).toNatClampNeg))) 107 7 ((m.1 107 7) + (zn 1)), m.2)) (am_b (am_eq (m.1 108 ((m.1 107 7).toNatClampNeg)) (zn 37)) (r_M_signToken_270 d 29999 (am_w (am_w m.1 107 9 (m.1 108 ((m.1 107 7).toNatClampNeg))) 107 7 ((m.1 107 7) + (zn 1)), m.2)) (some (none, (am_w (am_w (am_w m.1 107 9 (m.1 108 ((m.1 107 7).toNatClampNeg))) 107 7 ((m.1 107 7) + (zn 1))) 107 8 (zn 6), m.2))))))))))))))) := by
  have h : am_c (d + 1) y_M_signToken [.ref 107] m = r_M_signToken_0 d fu m := by
    rfl
  rw [h, fu_eq]; exact e_M_signToken_0 d 29999 m
noncomputable def r_M_packed_0 (d n : Nat) (a1 : Int32) (a2 : Int32) (m : am_M) : am_R := am_run am_G true (am_c d) 1 pg_M_packed [5] n 0 [some (.ref 107), some (.int a1), some (.int a2), none, none] m
noncomputable def r_M_packed_5 (d n : Nat) (x1 : Int32) (x2 : Int32) (x3 : Int32) (x4 : Int32) (m : am_M) : am_R := am_run am_G true (am_c d) 1 pg_M_packed [5] n 5 [some (.ref 107), some (.int x1), some (.int x2), some (.int x3), some (.int x4)] m
set_option maxRecDepth 100000 in
theorem e_M_packed_0 (d n : Nat) (a1 : Int32) (a2 : Int32) (m : am_M) : r_M_packed_0 d (n + 1) a1 a2 m = (r_M_packed_5 d n a1 a2 (zn 0) a1 m) := rfl
set_option maxRecDepth 100000 in
theorem e_M_packed_5 (d n : Nat) (x1 : Int32) (x2 : Int32) (x3 : Int32) (x4 : Int32) (m : am_M) : r_M_packed_5 d (n + 1) x1 x2 x3 x4 m = (am_b (am_le (x1 + (zn 6)) x4) (some (some (.int x3), m)) (am_b (am_le x2 x4) (r_M_packed_5 d n x1 x2 ((x3 <<< ((zn 5) &&& 31)) ||| (zn 0)) (x4 + (zn 1)) m) (am_b (am_oi x4 700) none (r_M_packed_5 d n x1 x2 ((x3 <<< ((zn 5) &&& 31)) ||| ((m.1 108 x4.toNatClampNeg) - (zn 96))) (x4 + (zn 1)) m)))) := rfl
set_option maxRecDepth 100000 in
theorem n_M_packed (d : Nat) (a1 : Int32) (a2 : Int32) (m : am_M) : am_c (d + 1) y_M_packed [.ref 107, .int a1, .int a2] m = (r_M_packed_5 d 29999 a1 a2 (zn 0) a1 m) := by
  have h : am_c (d + 1) y_M_packed [.ref 107, .int a1, .int a2] m = r_M_packed_0 d fu a1 a2 m := by
    rfl
  rw [h, fu_eq]; exact e_M_packed_0 d 29999 a1 a2 m
noncomputable def r_M_isKey_0 (d n : Nat) (a1 : Int32) (m : am_M) : am_R := am_run am_G true (am_c d) 2 pg_M_isKey [] n 0 [some (.ref 107), some (.int a1)] m
set_option maxRecDepth 100000 in
theorem e_M_isKey_0 (d n : Nat) (a1 : Int32) (m : am_M) : r_M_isKey_0 d (n + 1) a1 m = (am_b (am_eq (m.1 107 8) (zn 1)) (am_b (am_eq (m.1 107 9) a1) (some (some (.int (zn 1)), m)) (some (some (.int (zn 0)), m))) (some (some (.int (zn 0)), m))) := rfl
set_option maxRecDepth 100000 in
theorem n_M_isKey (d : Nat) (a1 : Int32) (m : am_M) : am_c (d + 1) y_M_isKey [.ref 107, .int a1] m = (am_b (am_eq (m.1 107 8) (zn 1)) (am_b (am_eq (m.1 107 9) a1) (some (some (.int (zn 1)), m)) (some (some (.int (zn 0)), m))) (some (some (.int (zn 0)), m))) := by
  have h : am_c (d + 1) y_M_isKey [.ref 107, .int a1] m = r_M_isKey_0 d fu a1 m := by
    rfl
  rw [h, fu_eq]; exact e_M_isKey_0 d 29999 a1 m
noncomputable def r_M_isSign_0 (d n : Nat) (a1 : Int32) (m : am_M) : am_R := am_run am_G true (am_c d) 2 pg_M_isSign [] n 0 [some (.ref 107), some (.int a1)] m
set_option maxRecDepth 100000 in
theorem e_M_isSign_0 (d n : Nat) (a1 : Int32) (m : am_M) : r_M_isSign_0 d (n + 1) a1 m = (am_b (am_eq (m.1 107 8) (zn 4)) (am_b (am_eq (m.1 107 9) a1) (some (some (.int (zn 1)), m)) (some (some (.int (zn 0)), m))) (some (some (.int (zn 0)), m))) := rfl
set_option maxRecDepth 100000 in
theorem n_M_isSign (d : Nat) (a1 : Int32) (m : am_M) : am_c (d + 1) y_M_isSign [.ref 107, .int a1] m = (am_b (am_eq (m.1 107 8) (zn 4)) (am_b (am_eq (m.1 107 9) a1) (some (some (.int (zn 1)), m)) (some (some (.int (zn 0)), m))) (some (some (.int (zn 0)), m))) := by
  have h : am_c (d + 1) y_M_isSign [.ref 107, .int a1] m = r_M_isSign_0 d fu a1 m := by
    rfl
  rw [h, fu_eq]; exact e_M_isSign_0 d 29999 a1 m
noncomputable def r_M_plain_0 (d n : Nat) (m : am_M) : am_R := am_run am_G true (am_c d) 0 pg_M_plain [27] n 0 [some (.ref 107), none] m
noncomputable def r_M_plain_27 (d n : Nat) (x1 : Int32) (m : am_M) : am_R := am_run am_G true (am_c d) 0 pg_M_plain [27] n 27 [some (.ref 107), some (.int x1)] m
set_option maxRecDepth 100000 in
theorem e_M_plain_0 (d n : Nat) (m : am_M) : r_M_plain_0 d (n + 1) m = (r_M_plain_27 d n (zn 0) (am_w (am_w (am_w (am_w (am_w m.1 107 16 (zn 0)) 107 17 (zn 0)) 107 18 (zn 0)) 107 19 (zn 0)) 107 43 (zn 0), m.2)) := rfl
set_option maxRecDepth 100000 in
theorem e_M_plain_27 (d n : Nat) (x1 : Int32) (m : am_M) : r_M_plain_27 d (n + 1) x1 m = (am_b (am_le (zn 3) x1) (some (none, m)) (am_b (am_oi x1 3) none (am_b (am_oi ((zn 3) + x1) 6) none (am_b (am_oi ((zn 3) + x1) 6) none (r_M_plain_27 d n (x1 + (zn 1)) (am_w (am_w (am_w m.1 110 x1.toNatClampNeg (vp_nar .boolean (zn 0))) 111 (((zn 3) + x1).toNatClampNeg) (zn 0)) 122 (((zn 3) + x1).toNatClampNeg) (vp_nar .boolean (zn 0)), m.2)))))) := rfl
set_option maxRecDepth 100000 in
theorem n_M_plain (d : Nat) (m : am_M) : am_c (d + 1) y_M_plain [.ref 107] m = (r_M_plain_27 d 29999 (zn 0) (am_w (am_w (am_w (am_w (am_w m.1 107 16 (zn 0)) 107 17 (zn 0)) 107 18 (zn 0)) 107 19 (zn 0)) 107 43 (zn 0), m.2)) := by
  have h : am_c (d + 1) y_M_plain [.ref 107] m = r_M_plain_0 d fu m := by
    rfl
  rw [h, fu_eq]; exact e_M_plain_0 d 29999 m
noncomputable def r_M_copies_111_0 (d n : Nat) (a1 : Int32) (m : am_M) : am_R := am_run am_G true (am_c d) 0 pg_M_copies [2] n 0 [some (.ref 111), some (.int a1), none] m
noncomputable def r_M_copies_111_2 (d n : Nat) (x1 : Int32) (x2 : Int32) (m : am_M) : am_R := am_run am_G true (am_c d) 0 pg_M_copies [2] n 2 [some (.ref 111), some (.int x1), some (.int x2)] m
set_option maxRecDepth 100000 in
theorem e_M_copies_111_0 (d n : Nat) (a1 : Int32) (m : am_M) : r_M_copies_111_0 d (n + 1) a1 m = (r_M_copies_111_2 d n a1 (zn 0) m) := rfl
set_option maxRecDepth 100000 in
theorem e_M_copies_111_2 (d n : Nat) (x1 : Int32) (x2 : Int32) (m : am_M) : r_M_copies_111_2 d (n + 1) x1 x2 m = (am_b (am_le x1 x2) (some (none, m)) (am_b (am_oi (x1 + x2) 6) none (am_b (am_oi x2 6) none (r_M_copies_111_2 d n x1 (x2 + (zn 1)) (am_w m.1 111 x2.toNatClampNeg (m.1 111 ((x1 + x2).toNatClampNeg)), m.2))))) := rfl
set_option maxRecDepth 100000 in
theorem n_M_copies_111 (d : Nat) (a1 : Int32) (m : am_M) : am_c (d + 1) y_M_copies [.ref 111, .int a1] m = (r_M_copies_111_2 d 29999 a1 (zn 0) m) := by
  have h : am_c (d + 1) y_M_copies [.ref 111, .int a1] m = r_M_copies_111_0 d fu a1 m := by
    rfl
  rw [h, fu_eq]; exact e_M_copies_111_0 d 29999 a1 m
noncomputable def r_M_copies_112_0 (d n : Nat) (a1 : Int32) (m : am_M) : am_R := am_run am_G true (am_c d) 0 pg_M_copies [2] n 0 [some (.ref 112), some (.int a1), none] m
noncomputable def r_M_copies_112_2 (d n : Nat) (x1 : Int32) (x2 : Int32) (m : am_M) : am_R := am_run am_G true (am_c d) 0 pg_M_copies [2] n 2 [some (.ref 112), some (.int x1), some (.int x2)] m
set_option maxRecDepth 100000 in
theorem e_M_copies_112_0 (d n : Nat) (a1 : Int32) (m : am_M) : r_M_copies_112_0 d (n + 1) a1 m = (r_M_copies_112_2 d n a1 (zn 0) m) := rfl
set_option maxRecDepth 100000 in
theorem e_M_copies_112_2 (d n : Nat) (x1 : Int32) (x2 : Int32) (m : am_M) : r_M_copies_112_2 d (n + 1) x1 x2 m = (am_b (am_le x1 x2) (some (none, m)) (am_b (am_oi (x1 + x2) 10) none (am_b (am_oi x2 10) none (r_M_copies_112_2 d n x1 (x2 + (zn 1)) (am_w m.1 112 x2.toNatClampNeg (m.1 112 ((x1 + x2).toNatClampNeg)), m.2))))) := rfl
set_option maxRecDepth 100000 in
theorem n_M_copies_112 (d : Nat) (a1 : Int32) (m : am_M) : am_c (d + 1) y_M_copies [.ref 112, .int a1] m = (r_M_copies_112_2 d 29999 a1 (zn 0) m) := by
  have h : am_c (d + 1) y_M_copies [.ref 112, .int a1] m = r_M_copies_112_0 d fu a1 m := by
    rfl
  rw [h, fu_eq]; exact e_M_copies_112_0 d 29999 a1 m
noncomputable def r_M_copies_113_0 (d n : Nat) (a1 : Int32) (m : am_M) : am_R := am_run am_G true (am_c d) 0 pg_M_copies [2] n 0 [some (.ref 113), some (.int a1), none] m
noncomputable def r_M_copies_113_2 (d n : Nat) (x1 : Int32) (x2 : Int32) (m : am_M) : am_R := am_run am_G true (am_c d) 0 pg_M_copies [2] n 2 [some (.ref 113), some (.int x1), some (.int x2)] m
set_option maxRecDepth 100000 in
theorem e_M_copies_113_0 (d n : Nat) (a1 : Int32) (m : am_M) : r_M_copies_113_0 d (n + 1) a1 m = (r_M_copies_113_2 d n a1 (zn 0) m) := rfl
set_option maxRecDepth 100000 in
theorem e_M_copies_113_2 (d n : Nat) (x1 : Int32) (x2 : Int32) (m : am_M) : r_M_copies_113_2 d (n + 1) x1 x2 m = (am_b (am_le x1 x2) (some (none, m)) (am_b (am_oi (x1 + x2) 10) none (am_b (am_oi x2 10) none (r_M_copies_113_2 d n x1 (x2 + (zn 1)) (am_w m.1 113 x2.toNatClampNeg (m.1 113 ((x1 + x2).toNatClampNeg)), m.2))))) := rfl
set_option maxRecDepth 100000 in
theorem n_M_copies_113 (d : Nat) (a1 : Int32) (m : am_M) : am_c (d + 1) y_M_copies [.ref 113, .int a1] m = (r_M_copies_113_2 d 29999 a1 (zn 0) m) := by
  have h : am_c (d + 1) y_M_copies [.ref 113, .int a1] m = r_M_copies_113_0 d fu a1 m := by
    rfl
  rw [h, fu_eq]; exact e_M_copies_113_0 d 29999 a1 m
noncomputable def r_M_copies_114_0 (d n : Nat) (a1 : Int32) (m : am_M) : am_R := am_run am_G true (am_c d) 0 pg_M_copies [2] n 0 [some (.ref 114), some (.int a1), none] m
noncomputable def r_M_copies_114_2 (d n : Nat) (x1 : Int32) (x2 : Int32) (m : am_M) : am_R := am_run am_G true (am_c d) 0 pg_M_copies [2] n 2 [some (.ref 114), some (.int x1), some (.int x2)] m
set_option maxRecDepth 100000 in
theorem e_M_copies_114_0 (d n : Nat) (a1 : Int32) (m : am_M) : r_M_copies_114_0 d (n + 1) a1 m = (r_M_copies_114_2 d n a1 (zn 0) m) := rfl
set_option maxRecDepth 100000 in
theorem e_M_copies_114_2 (d n : Nat) (x1 : Int32) (x2 : Int32) (m : am_M) : r_M_copies_114_2 d (n + 1) x1 x2 m = (am_b (am_le x1 x2) (some (none, m)) (am_b (am_oi (x1 + x2) 10) none (am_b (am_oi x2 10) none (r_M_copies_114_2 d n x1 (x2 + (zn 1)) (am_w m.1 114 x2.toNatClampNeg (m.1 114 ((x1 + x2).toNatClampNeg)), m.2))))) := rfl
set_option maxRecDepth 100000 in
theorem n_M_copies_114 (d : Nat) (a1 : Int32) (m : am_M) : am_c (d + 1) y_M_copies [.ref 114, .int a1] m = (r_M_copies_114_2 d 29999 a1 (zn 0) m) := by
  have h : am_c (d + 1) y_M_copies [.ref 114, .int a1] m = r_M_copies_114_0 d fu a1 m := by
    rfl
  rw [h, fu_eq]; exact e_M_copies_114_0 d 29999 a1 m
noncomputable def r_M_copies_115_0 (d n : Nat) (a1 : Int32) (m : am_M) : am_R := am_run am_G true (am_c d) 0 pg_M_copies [2] n 0 [some (.ref 115), some (.int a1), none] m
noncomputable def r_M_copies_115_2 (d n : Nat) (x1 : Int32) (x2 : Int32) (m : am_M) : am_R := am_run am_G true (am_c d) 0 pg_M_copies [2] n 2 [some (.ref 115), some (.int x1), some (.int x2)] m
set_option maxRecDepth 100000 in
theorem e_M_copies_115_0 (d n : Nat) (a1 : Int32) (m : am_M) : r_M_copies_115_0 d (n + 1) a1 m = (r_M_copies_115_2 d n a1 (zn 0) m) := rfl
set_option maxRecDepth 100000 in
theorem e_M_copies_115_2 (d n : Nat) (x1 : Int32) (x2 : Int32) (m : am_M) : r_M_copies_115_2 d (n + 1) x1 x2 m = (am_b (am_le x1 x2) (some (none, m)) (am_b (am_oi (x1 + x2) 10) none (am_b (am_oi x2 10) none (r_M_copies_115_2 d n x1 (x2 + (zn 1)) (am_w m.1 115 x2.toNatClampNeg (m.1 115 ((x1 + x2).toNatClampNeg)), m.2))))) := rfl
set_option maxRecDepth 100000 in
theorem n_M_copies_115 (d : Nat) (a1 : Int32) (m : am_M) : am_c (d + 1) y_M_copies [.ref 115, .int a1] m = (r_M_copies_115_2 d 29999 a1 (zn 0) m) := by
  have h : am_c (d + 1) y_M_copies [.ref 115, .int a1] m = r_M_copies_115_0 d fu a1 m := by
    rfl
  rw [h, fu_eq]; exact e_M_copies_115_0 d 29999 a1 m
noncomputable def r_M_copies_116_0 (d n : Nat) (a1 : Int32) (m : am_M) : am_R := am_run am_G true (am_c d) 0 pg_M_copies [2] n 0 [some (.ref 116), some (.int a1), none] m
noncomputable def r_M_copies_116_2 (d n : Nat) (x1 : Int32) (x2 : Int32) (m : am_M) : am_R := am_run am_G true (am_c d) 0 pg_M_copies [2] n 2 [some (.ref 116), some (.int x1), some (.int x2)] m
set_option maxRecDepth 100000 in
theorem e_M_copies_116_0 (d n : Nat) (a1 : Int32) (m : am_M) : r_M_copies_116_0 d (n + 1) a1 m = (r_M_copies_116_2 d n a1 (zn 0) m) := rfl
set_option maxRecDepth 100000 in
theorem e_M_copies_116_2 (d n : Nat) (x1 : Int32) (x2 : Int32) (m : am_M) : r_M_copies_116_2 d (n + 1) x1 x2 m = (am_b (am_le x1 x2) (some (none, m)) (am_b (am_oi (x1 + x2) 10) none (am_b (am_oi x2 10) none (r_M_copies_116_2 d n x1 (x2 + (zn 1)) (am_w m.1 116 x2.toNatClampNeg (m.1 116 ((x1 + x2).toNatClampNeg)), m.2))))) := rfl
set_option maxRecDepth 100000 in
theorem n_M_copies_116 (d : Nat) (a1 : Int32) (m : am_M) : am_c (d + 1) y_M_copies [.ref 116, .int a1] m = (r_M_copies_116_2 d 29999 a1 (zn 0) m) := by
  have h : am_c (d + 1) y_M_copies [.ref 116, .int a1] m = r_M_copies_116_0 d fu a1 m := by
    rfl
  rw [h, fu_eq]; exact e_M_copies_116_0 d 29999 a1 m
noncomputable def r_M_copies_117_0 (d n : Nat) (a1 : Int32) (m : am_M) : am_R := am_run am_G true (am_c d) 0 pg_M_copies [2] n 0 [some (.ref 117), some (.int a1), none] m
noncomputable def r_M_copies_117_2 (d n : Nat) (x1 : Int32) (x2 : Int32) (m : am_M) : am_R := am_run am_G true (am_c d) 0 pg_M_copies [2] n 2 [some (.ref 117), some (.int x1), some (.int x2)] m
set_option maxRecDepth 100000 in
theorem e_M_copies_117_0 (d n : Nat) (a1 : Int32) (m : am_M) : r_M_copies_117_0 d (n + 1) a1 m = (r_M_copies_117_2 d n a1 (zn 0) m) := rfl
set_option maxRecDepth 100000 in
theorem e_M_copies_117_2 (d n : Nat) (x1 : Int32) (x2 : Int32) (m : am_M) : r_M_copies_117_2 d (n + 1) x1 x2 m = (am_b (am_le x1 x2) (some (none, m)) (am_b (am_oi (x1 + x2) 10) none (am_b (am_oi x2 10) none (r_M_copies_117_2 d n x1 (x2 + (zn 1)) (am_w m.1 117 x2.toNatClampNeg (m.1 117 ((x1 + x2).toNatClampNeg)), m.2))))) := rfl
set_option maxRecDepth 100000 in
theorem n_M_copies_117 (d : Nat) (a1 : Int32) (m : am_M) : am_c (d + 1) y_M_copies [.ref 117, .int a1] m = (r_M_copies_117_2 d 29999 a1 (zn 0) m) := by
  have h : am_c (d + 1) y_M_copies [.ref 117, .int a1] m = r_M_copies_117_0 d fu a1 m := by
    rfl
  rw [h, fu_eq]; exact e_M_copies_117_0 d 29999 a1 m
noncomputable def r_M_copies_118_0 (d n : Nat) (a1 : Int32) (m : am_M) : am_R := am_run am_G true (am_c d) 0 pg_M_copies [2] n 0 [some (.ref 118), some (.int a1), none] m
noncomputable def r_M_copies_118_2 (d n : Nat) (x1 : Int32) (x2 : Int32) (m : am_M) : am_R := am_run am_G true (am_c d) 0 pg_M_copies [2] n 2 [some (.ref 118), some (.int x1), some (.int x2)] m
set_option maxRecDepth 100000 in
theorem e_M_copies_118_0 (d n : Nat) (a1 : Int32) (m : am_M) : r_M_copies_118_0 d (n + 1) a1 m = (r_M_copies_118_2 d n a1 (zn 0) m) := rfl
set_option maxRecDepth 100000 in
theorem e_M_copies_118_2 (d n : Nat) (x1 : Int32) (x2 : Int32) (m : am_M) : r_M_copies_118_2 d (n + 1) x1 x2 m = (am_b (am_le x1 x2) (some (none, m)) (am_b (am_oi (x1 + x2) 10) none (am_b (am_oi x2 10) none (r_M_copies_118_2 d n x1 (x2 + (zn 1)) (am_w m.1 118 x2.toNatClampNeg (m.1 118 ((x1 + x2).toNatClampNeg)), m.2))))) := rfl
set_option maxRecDepth 100000 in
theorem n_M_copies_118 (d : Nat) (a1 : Int32) (m : am_M) : am_c (d + 1) y_M_copies [.ref 118, .int a1] m = (r_M_copies_118_2 d 29999 a1 (zn 0) m) := by
  have h : am_c (d + 1) y_M_copies [.ref 118, .int a1] m = r_M_copies_118_0 d fu a1 m := by
    rfl
  rw [h, fu_eq]; exact e_M_copies_118_0 d 29999 a1 m
noncomputable def r_M_copies_119_0 (d n : Nat) (a1 : Int32) (m : am_M) : am_R := am_run am_G true (am_c d) 0 pg_M_copies [2] n 0 [some (.ref 119), some (.int a1), none] m
noncomputable def r_M_copies_119_2 (d n : Nat) (x1 : Int32) (x2 : Int32) (m : am_M) : am_R := am_run am_G true (am_c d) 0 pg_M_copies [2] n 2 [some (.ref 119), some (.int x1), some (.int x2)] m
set_option maxRecDepth 100000 in
theorem e_M_copies_119_0 (d n : Nat) (a1 : Int32) (m : am_M) : r_M_copies_119_0 d (n + 1) a1 m = (r_M_copies_119_2 d n a1 (zn 0) m) := rfl
set_option maxRecDepth 100000 in
theorem e_M_copies_119_2 (d n : Nat) (x1 : Int32) (x2 : Int32) (m : am_M) : r_M_copies_119_2 d (n + 1) x1 x2 m = (am_b (am_le x1 x2) (some (none, m)) (am_b (am_oi (x1 + x2) 10) none (am_b (am_oi x2 10) none (r_M_copies_119_2 d n x1 (x2 + (zn 1)) (am_w m.1 119 x2.toNatClampNeg (m.1 119 ((x1 + x2).toNatClampNeg)), m.2))))) := rfl
set_option maxRecDepth 100000 in
theorem n_M_copies_119 (d : Nat) (a1 : Int32) (m : am_M) : am_c (d + 1) y_M_copies [.ref 119, .int a1] m = (r_M_copies_119_2 d 29999 a1 (zn 0) m) := by
  have h : am_c (d + 1) y_M_copies [.ref 119, .int a1] m = r_M_copies_119_0 d fu a1 m := by
    rfl
  rw [h, fu_eq]; exact e_M_copies_119_0 d 29999 a1 m
noncomputable def r_M_copies_120_0 (d n : Nat) (a1 : Int32) (m : am_M) : am_R := am_run am_G true (am_c d) 0 pg_M_copies [2] n 0 [some (.ref 120), some (.int a1), none] m
noncomputable def r_M_copies_120_2 (d n : Nat) (x1 : Int32) (x2 : Int32) (m : am_M) : am_R := am_run am_G true (am_c d) 0 pg_M_copies [2] n 2 [some (.ref 120), some (.int x1), some (.int x2)] m
set_option maxRecDepth 100000 in
theorem e_M_copies_120_0 (d n : Nat) (a1 : Int32) (m : am_M) : r_M_copies_120_0 d (n + 1) a1 m = (r_M_copies_120_2 d n a1 (zn 0) m) := rfl
set_option maxRecDepth 100000 in
theorem e_M_copies_120_2 (d n : Nat) (x1 : Int32) (x2 : Int32) (m : am_M) : r_M_copies_120_2 d (n + 1) x1 x2 m = (am_b (am_le x1 x2) (some (none, m)) (am_b (am_oi (x1 + x2) 20) none (am_b (am_oi x2 20) none (r_M_copies_120_2 d n x1 (x2 + (zn 1)) (am_w m.1 120 x2.toNatClampNeg (m.1 120 ((x1 + x2).toNatClampNeg)), m.2))))) := rfl
set_option maxRecDepth 100000 in
theorem n_M_copies_120 (d : Nat) (a1 : Int32) (m : am_M) : am_c (d + 1) y_M_copies [.ref 120, .int a1] m = (r_M_copies_120_2 d 29999 a1 (zn 0) m) := by
  have h : am_c (d + 1) y_M_copies [.ref 120, .int a1] m = r_M_copies_120_0 d fu a1 m := by
    rfl
  rw [h, fu_eq]; exact e_M_copies_120_0 d 29999 a1 m
noncomputable def r_M_copies_121_0 (d n : Nat) (a1 : Int32) (m : am_M) : am_R := am_run am_G true (am_c d) 0 pg_M_copies [2] n 0 [some (.ref 121), some (.int a1), none] m
noncomputable def r_M_copies_121_2 (d n : Nat) (x1 : Int32) (x2 : Int32) (m : am_M) : am_R := am_run am_G true (am_c d) 0 pg_M_copies [2] n 2 [some (.ref 121), some (.int x1), some (.int x2)] m
set_option maxRecDepth 100000 in
theorem e_M_copies_121_0 (d n : Nat) (a1 : Int32) (m : am_M) : r_M_copies_121_0 d (n + 1) a1 m = (r_M_copies_121_2 d n a1 (zn 0) m) := rfl
set_option maxRecDepth 100000 in
theorem e_M_copies_121_2 (d n : Nat) (x1 : Int32) (x2 : Int32) (m : am_M) : r_M_copies_121_2 d (n + 1) x1 x2 m = (am_b (am_le x1 x2) (some (none, m)) (am_b (am_oi (x1 + x2) 20) none (am_b (am_oi x2 20) none (r_M_copies_121_2 d n x1 (x2 + (zn 1)) (am_w m.1 121 x2.toNatClampNeg (m.1 121 ((x1 + x2).toNatClampNeg)), m.2))))) := rfl
set_option maxRecDepth 100000 in
theorem n_M_copies_121 (d : Nat) (a1 : Int32) (m : am_M) : am_c (d + 1) y_M_copies [.ref 121, .int a1] m = (r_M_copies_121_2 d 29999 a1 (zn 0) m) := by
  have h : am_c (d + 1) y_M_copies [.ref 121, .int a1] m = r_M_copies_121_0 d fu a1 m := by
    rfl
  rw [h, fu_eq]; exact e_M_copies_121_0 d 29999 a1 m
noncomputable def r_M_copies_123_0 (d n : Nat) (a1 : Int32) (m : am_M) : am_R := am_run am_G true (am_c d) 0 pg_M_copies [2] n 0 [some (.ref 123), some (.int a1), none] m
noncomputable def r_M_copies_123_2 (d n : Nat) (x1 : Int32) (x2 : Int32) (m : am_M) : am_R := am_run am_G true (am_c d) 0 pg_M_copies [2] n 2 [some (.ref 123), some (.int x1), some (.int x2)] m
set_option maxRecDepth 100000 in
theorem e_M_copies_123_0 (d n : Nat) (a1 : Int32) (m : am_M) : r_M_copies_123_0 d (n + 1) a1 m = (r_M_copies_123_2 d n a1 (zn 0) m) := rfl
set_option maxRecDepth 100000 in
theorem e_M_copies_123_2 (d n : Nat) (x1 : Int32) (x2 : Int32) (m : am_M) : r_M_copies_123_2 d (n + 1) x1 x2 m = (am_b (am_le x1 x2) (some (none, m)) (am_b (am_oi (x1 + x2) 6) none (am_b (am_oi x2 6) none (r_M_copies_123_2 d n x1 (x2 + (zn 1)) (am_w m.1 123 x2.toNatClampNeg (m.1 123 ((x1 + x2).toNatClampNeg)), m.2))))) := rfl
set_option maxRecDepth 100000 in
theorem n_M_copies_123 (d : Nat) (a1 : Int32) (m : am_M) : am_c (d + 1) y_M_copies [.ref 123, .int a1] m = (r_M_copies_123_2 d 29999 a1 (zn 0) m) := by
  have h : am_c (d + 1) y_M_copies [.ref 123, .int a1] m = r_M_copies_123_0 d fu a1 m := by
    rfl
  rw [h, fu_eq]; exact e_M_copies_123_0 d 29999 a1 m
noncomputable def r_M_copies_124_0 (d n : Nat) (a1 : Int32) (m : am_M) : am_R := am_run am_G true (am_c d) 0 pg_M_copies [2] n 0 [some (.ref 124), some (.int a1), none] m
noncomputable def r_M_copies_124_2 (d n : Nat) (x1 : Int32) (x2 : Int32) (m : am_M) : am_R := am_run am_G true (am_c d) 0 pg_M_copies [2] n 2 [some (.ref 124), some (.int x1), some (.int x2)] m
set_option maxRecDepth 100000 in
theorem e_M_copies_124_0 (d n : Nat) (a1 : Int32) (m : am_M) : r_M_copies_124_0 d (n + 1) a1 m = (r_M_copies_124_2 d n a1 (zn 0) m) := rfl
set_option maxRecDepth 100000 in
theorem e_M_copies_124_2 (d n : Nat) (x1 : Int32) (x2 : Int32) (m : am_M) : r_M_copies_124_2 d (n + 1) x1 x2 m = (am_b (am_le x1 x2) (some (none, m)) (am_b (am_oi (x1 + x2) 6) none (am_b (am_oi x2 6) none (r_M_copies_124_2 d n x1 (x2 + (zn 1)) (am_w m.1 124 x2.toNatClampNeg (m.1 124 ((x1 + x2).toNatClampNeg)), m.2))))) := rfl
set_option maxRecDepth 100000 in
theorem n_M_copies_124 (d : Nat) (a1 : Int32) (m : am_M) : am_c (d + 1) y_M_copies [.ref 124, .int a1] m = (r_M_copies_124_2 d 29999 a1 (zn 0) m) := by
  have h : am_c (d + 1) y_M_copies [.ref 124, .int a1] m = r_M_copies_124_0 d fu a1 m := by
    rfl
  rw [h, fu_eq]; exact e_M_copies_124_0 d 29999 a1 m
noncomputable def r_M_copies_125_0 (d n : Nat) (a1 : Int32) (m : am_M) : am_R := am_run am_G true (am_c d) 0 pg_M_copies [2] n 0 [some (.ref 125), some (.int a1), none] m
noncomputable def r_M_copies_125_2 (d n : Nat) (x1 : Int32) (x2 : Int32) (m : am_M) : am_R := am_run am_G true (am_c d) 0 pg_M_copies [2] n 2 [some (.ref 125), some (.int x1), some (.int x2)] m
set_option maxRecDepth 100000 in
theorem e_M_copies_125_0 (d n : Nat) (a1 : Int32) (m : am_M) : r_M_copies_125_0 d (n + 1) a1 m = (r_M_copies_125_2 d n a1 (zn 0) m) := rfl
set_option maxRecDepth 100000 in
theorem e_M_copies_125_2 (d n : Nat) (x1 : Int32) (x2 : Int32) (m : am_M) : r_M_copies_125_2 d (n + 1) x1 x2 m = (am_b (am_le x1 x2) (some (none, m)) (am_b (am_oi (x1 + x2) 128) none (am_b (am_oi x2 128) none (r_M_copies_125_2 d n x1 (x2 + (zn 1)) (am_w m.1 125 x2.toNatClampNeg (m.1 125 ((x1 + x2).toNatClampNeg)), m.2))))) := rfl
set_option maxRecDepth 100000 in
theorem n_M_copies_125 (d : Nat) (a1 : Int32) (m : am_M) : am_c (d + 1) y_M_copies [.ref 125, .int a1] m = (r_M_copies_125_2 d 29999 a1 (zn 0) m) := by
  have h : am_c (d + 1) y_M_copies [.ref 125, .int a1] m = r_M_copies_125_0 d fu a1 m := by
    rfl
  rw [h, fu_eq]; exact e_M_copies_125_0 d 29999 a1 m
noncomputable def r_M_copies_126_0 (d n : Nat) (a1 : Int32) (m : am_M) : am_R := am_run am_G true (am_c d) 0 pg_M_copies [2] n 0 [some (.ref 126), some (.int a1), none] m
noncomputable def r_M_copies_126_2 (d n : Nat) (x1 : Int32) (x2 : Int32) (m : am_M) : am_R := am_run am_G true (am_c d) 0 pg_M_copies [2] n 2 [some (.ref 126), some (.int x1), some (.int x2)] m
set_option maxRecDepth 100000 in
theorem e_M_copies_126_0 (d n : Nat) (a1 : Int32) (m : am_M) : r_M_copies_126_0 d (n + 1) a1 m = (r_M_copies_126_2 d n a1 (zn 0) m) := rfl
set_option maxRecDepth 100000 in
theorem e_M_copies_126_2 (d n : Nat) (x1 : Int32) (x2 : Int32) (m : am_M) : r_M_copies_126_2 d (n + 1) x1 x2 m = (am_b (am_le x1 x2) (some (none, m)) (am_b (am_oi (x1 + x2) 128) none (am_b (am_oi x2 128) none (r_M_copies_126_2 d n x1 (x2 + (zn 1)) (am_w m.1 126 x2.toNatClampNeg (m.1 126 ((x1 + x2).toNatClampNeg)), m.2))))) := rfl
set_option maxRecDepth 100000 in
theorem n_M_copies_126 (d : Nat) (a1 : Int32) (m : am_M) : am_c (d + 1) y_M_copies [.ref 126, .int a1] m = (r_M_copies_126_2 d 29999 a1 (zn 0) m) := by
  have h : am_c (d + 1) y_M_copies [.ref 126, .int a1] m = r_M_copies_126_0 d fu a1 m := by
    rfl
  rw [h, fu_eq]; exact e_M_copies_126_0 d 29999 a1 m
noncomputable def r_M_copies_127_0 (d n : Nat) (a1 : Int32) (m : am_M) : am_R := am_run am_G true (am_c d) 0 pg_M_copies [2] n 0 [some (.ref 127), some (.int a1), none] m
noncomputable def r_M_copies_127_2 (d n : Nat) (x1 : Int32) (x2 : Int32) (m : am_M) : am_R := am_run am_G true (am_c d) 0 pg_M_copies [2] n 2 [some (.ref 127), some (.int x1), some (.int x2)] m
set_option maxRecDepth 100000 in
theorem e_M_copies_127_0 (d n : Nat) (a1 : Int32) (m : am_M) : r_M_copies_127_0 d (n + 1) a1 m = (r_M_copies_127_2 d n a1 (zn 0) m) := rfl
set_option maxRecDepth 100000 in
theorem e_M_copies_127_2 (d n : Nat) (x1 : Int32) (x2 : Int32) (m : am_M) : r_M_copies_127_2 d (n + 1) x1 x2 m = (am_b (am_le x1 x2) (some (none, m)) (am_b (am_oi (x1 + x2) 128) none (am_b (am_oi x2 128) none (r_M_copies_127_2 d n x1 (x2 + (zn 1)) (am_w m.1 127 x2.toNatClampNeg (m.1 127 ((x1 + x2).toNatClampNeg)), m.2))))) := rfl
set_option maxRecDepth 100000 in
theorem n_M_copies_127 (d : Nat) (a1 : Int32) (m : am_M) : am_c (d + 1) y_M_copies [.ref 127, .int a1] m = (r_M_copies_127_2 d 29999 a1 (zn 0) m) := by
  have h : am_c (d + 1) y_M_copies [.ref 127, .int a1] m = r_M_copies_127_0 d fu a1 m := by
    rfl
  rw [h, fu_eq]; exact e_M_copies_127_0 d 29999 a1 m
