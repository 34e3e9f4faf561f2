noncomputable def r_Reader_findThing_0 (d n : Nat) (m : am_M) : am_R := am_run am_G true (am_c d) 2 pg_Reader_findThing [] n 0 [some (.ref 1)] m
set_option maxRecDepth 100000 in
theorem e_Reader_findThing_0 (d n : Nat) (m : am_M) : r_Reader_findThing_0 d (n + 1) m = (am_b (am_eq (m.1 2 4) (zn 25)) (am_bI (am_c d y_Told_thingNamed [.ref 5, .int (m.1 2 6)] m) (fun r2 m1 => am_b (am_eq r2 zm) (am_bI (am_c d y_Reader_fail [.ref 1, .int (zn 4)] (am_w m1.1 1 11 r2, m1.2)) (fun r4 m3 => am_b (am_eq r4 (zn 0)) (some (some (.int (zn 0)), m3)) (some (some (.int (zn 1)), m3)))) (some (some (.int (zn 1)), (am_w m1.1 1 11 r2, m1.2))))) (am_bI (am_c d y_Reader_fail [.ref 1, .int (zn 1)] m) (fun r6 m5 => am_b (am_eq r6 (zn 0)) (some (some (.int r6), m5)) (am_b (am_eq r6 (zn 1)) (some (some (.int r6), m5)) none)))) := rfl
set_option maxRecDepth 100000 in
theorem n_Reader_findThing (d : Nat) (m : am_M) : am_c (d + 1) y_Reader_findThing [.ref 1] m = (am_b (am_eq (m.1 2 4) (zn 25)) (am_bI (am_c d y_Told_thingNamed [.ref 5, .int (m.1 2 6)] m) (fun r2 m1 => am_b (am_eq r2 zm) (am_bI (am_c d y_Reader_fail [.ref 1, .int (zn 4)] (am_w m1.1 1 11 r2, m1.2)) (fun r4 m3 => am_b (am_eq r4 (zn 0)) (some (some (.int (zn 0)), m3)) (some (some (.int (zn 1)), m3)))) (some (some (.int (zn 1)), (am_w m1.1 1 11 r2, m1.2))))) (am_bI (am_c d y_Reader_fail [.ref 1, .int (zn 1)] m) (fun r6 m5 => am_b (am_eq r6 (zn 0)) (some (some (.int r6), m5)) (am_b (am_eq r6 (zn 1)) (some (some (.int r6), m5)) none)))) := by
  have h : am_c (d + 1) y_Reader_findThing [.ref 1] m = r_Reader_findThing_0 d fu m := by
    rfl
  rw [h, fu_eq]; exact e_Reader_findThing_0 d 29999 m
noncomputable def r_Reader_countKnot_0 (d n : Nat) (m : am_M) : am_R := am_run am_G true (am_c d) 2 pg_Reader_countKnot [] n 0 [some (.ref 1)] m
set_option maxRecDepth 100000 in
theorem e_Reader_countKnot_0 (d n : Nat) (m : am_M) : r_Reader_countKnot_0 d (n + 1) m = (am_b (am_le ((m.1 1 4) + (zn 1)) (zn 64)) (some (some (.int (zn 1)), (am_w m.1 1 4 ((m.1 1 4) + (zn 1)), m.2))) (am_bI (am_c d y_Reader_fail [.ref 1, .int (zn 2)] (am_w m.1 1 4 ((m.1 1 4) + (zn 1)), m.2)) (fun r2 m1 => am_b (am_eq r2 (zn 0)) (some (some (.int (zn 0)), m1)) (some (some (.int (zn 1)), m1))))) := rfl
set_option maxRecDepth 100000 in
theorem n_Reader_countKnot (d : Nat) (m : am_M) : am_c (d + 1) y_Reader_countKnot [.ref 1] m = (am_b (am_le ((m.1 1 4) + (zn 1)) (zn 64)) (some (some (.int (zn 1)), (am_w m.1 1 4 ((m.1 1 4) + (zn 1)), m.2))) (am_bI (am_c d y_Reader_fail [.ref 1, .int (zn 2)] (am_w m.1 1 4 ((m.1 1 4) + (zn 1)), m.2)) (fun r2 m1 => am_b (am_eq r2 (zn 0)) (some (some (.int (zn 0)), m1)) (some (some (.int (zn 1)), m1))))) := by
  have h : am_c (d + 1) y_Reader_countKnot [.ref 1] m = r_Reader_countKnot_0 d fu m := by
    rfl
  rw [h, fu_eq]; exact e_Reader_countKnot_0 d 29999 m
noncomputable def r_Reader_putWaiting_0 (d n : Nat) (x1 : Int32) (m : am_M) : am_R := am_run am_G true (am_c d) 0 pg_Reader_putWaiting [0] n 0 [some (.ref 1), some (.int x1)] m
set_option maxRecDepth 100000 in
theorem e_Reader_putWaiting_0 (d n : Nat) (x1 : Int32) (m : am_M) : r_Reader_putWaiting_0 d (n + 1) x1 m = (am_b (am_le (m.1 1 3) (zn 0)) (some (none, m)) (am_b (am_oi ((m.1 1 3) - (zn 1)) 72) none (am_bI (am_c d y_Reader_strengthOf [.int (m.1 24 (((m.1 1 3) - (zn 1)).toNatClampNeg))] m) (fun r2 m1 => am_b (am_lt r2 x1) (some (none, m1)) (am_b (am_oi ((m1.1 1 3) - (zn 1)) 72) none (am_bV (am_c d y_Laws_put [.ref 17, .int (m1.1 24 (((m1.1 1 3) - (zn 1)).toNatClampNeg)), .int (zn 0)] (am_w m1.1 1 3 ((m1.1 1 3) - (zn 1)), m1.2)) (fun m3 => r_Reader_putWaiting_0 d n x1 m3))))))) := rfl
set_option maxRecDepth 100000 in
theorem n_Reader_putWaiting (d : Nat) (a1 : Int32) (m : am_M) : am_c (d + 1) y_Reader_putWaiting [.ref 1, .int a1] m = r_Reader_putWaiting_0 d (29999 + 1) a1 m := by
  have h : am_c (d + 1) y_Reader_putWaiting [.ref 1, .int a1] m = r_Reader_putWaiting_0 d fu a1 m := by
    rfl
  rw [h, fu_eq]
noncomputable def r_Scanner_readWord_0 (d n : Nat) (m : am_M) : am_R := am_run am_G true (am_c d) 0 pg_Scanner_readWord [5,110] n 0 [some (.ref 2), none] m
noncomputable def r_Scanner_readWord_5 (d n : Nat) (x1 : Option Value) (m : am_M) : am_R := am_run am_G true (am_c d) 0 pg_Scanner_readWord [5,110] n 5 [some (.ref 2), x1] m
noncomputable def r_Scanner_readWord_110 (d n : Nat) (x1 : Int32) (m : am_M) : am_R := am_run am_G true (am_c d) 0 pg_Scanner_readWord [5,110] n 110 [some (.ref 2), some (.int x1)] m
set_option maxRecDepth 100000 in
theorem e_Scanner_readWord_0 (d n : Nat) (m : am_M) : r_Scanner_readWord_0 d (n + 1) m = (r_Scanner_readWord_5 d n none (am_w m.1 2 6 (zn 0), m.2)) := rfl
set_option maxRecDepth 100000 in
theorem e_Scanner_readWord_5 (d n : Nat) (x1 : Option Value) (m : am_M) : r_Scanner_readWord_5 d (n + 1) x1 m = (am_b (am_le (m.1 2 2) (m.1 2 3)) (am_b (am_le ((m.1 2 3) - (m.1 2 5)) (zn 6)) (r_Scanner_readWord_110 d n (zn 0) (am_w m.1 2 4 (zn 25), m.2)) (r_Scanner_readWord_110 d n (zn 0) (am_w m.1 2 4 (zn 41), m.2))) (am_bI (am_c d y_Scanner_isLetter [.ref 2, .int (m.1 2 3)] m) (fun r2 m1 => am_b (am_eq r2 (zn 0)) (am_b (am_le ((m1.1 2 3) - (m1.1 2 5)) (zn 6)) (r_Scanner_readWord_110 d n (zn 0) (am_w m1.1 2 4 (zn 25), m1.2)) (r_Scanner_readWord_110 d n (zn 0) (am_w m1.1 2 4 (zn 41), m1.2))) (am_b (am_lt ((zn 5) * ((zn 5) - ((m1.1 2 3) - (m1.1 2 5)))) (zn 0)) (r_Scanner_readWord_5 d n (some (.int ((zn 5) * ((zn 5) - ((m1.1 2 3) - (m1.1 2 5)))))) (am_w m1.1 2 3 ((m1.1 2 3) + (zn 1)), m1.2)) (am_b (am_oi (m1.1 2 3) 700) none (r_Scanner_readWord_5 d n (some (.int ((zn 5) * ((zn 5) - ((m1.1 2 3) - (m1.1 2 5)))))) (am_w (am_w m1.1 2 6 ((m1.1 2 6) ||| ((((m1.1 3 ((m1.1 2 3).toNatClampNeg)) - (zn 97)) + (zn 1)) <<< (((zn 5) * ((zn 5) - ((m1.1 2 3) - (m1.1 2 5)))) &&& 31)))) 2 3 ((m1.1 2 3) + (zn 1)), m1.2))))))) := rfl
set_option maxRecDepth 100000 in
theorem e_Scanner_readWord_110 (d n : Nat) (x1 : Int32) (m : am_M) : r_Scanner_readWord_110 d (n + 1) x1 m = (am_b (am_le (zn 25) x1) (some (none, m)) (am_b (am_eq (m.1 2 4) (zn 25)) (am_b (am_oi x1 25) none (am_b (am_eq (m.1 4 x1.toNatClampNeg) (m.1 2 6)) (r_Scanner_readWord_110 d n (x1 + (zn 1)) (am_w m.1 2 4 x1, m.2)) (r_Scanner_readWord_110 d n (x1 + (zn 1)) m))) (some (none, m)))) := rfl
set_option maxRecDepth 100000 in
theorem n_Scanner_readWord (d : Nat) (m : am_M) : am_c (d + 1) y_Scanner_readWord [.ref 2] m = (r_Scanner_readWord_5 d 29999 none (am_w m.1 2 6 (zn 0), m.2)) := by
  have h : am_c (d + 1) y_Scanner_readWord [.ref 2] m = r_Scanner_readWord_0 d fu m := by
    rfl
  rw [h, fu_eq]; exact e_Scanner_readWord_0 d 29999 m
noncomputable def r_Scanner_readNumber_0 (d n : Nat) (m : am_M) : am_R := am_run am_G true (am_c d) 0 pg_Scanner_readNumber [11] n 0 [some (.ref 2)] m
noncomputable def r_Scanner_readNumber_11 (d n : Nat) (m : am_M) : am_R := am_run am_G true (am_c d) 0 pg_Scanner_readNumber [11] n 11 [some (.ref 2)] m
set_option maxRecDepth 100000 in
theorem e_Scanner_readNumber_0 (d n : Nat) (m : am_M) : r_Scanner_readNumber_0 d (n + 1) m = (r_Scanner_readNumber_11 d n (am_w (am_w m.1 2 4 (zn 26)) 2 7 (zn 0), m.2)) := rfl
set_option maxRecDepth 100000 in
theorem e_Scanner_readNumber_11 (d n : Nat) (m : am_M) : r_Scanner_readNumber_11 d (n + 1) m = (am_b (am_le (m.1 2 2) (m.1 2 3)) (some (none, m)) (am_bI (am_c d y_Scanner_isDigit [.ref 2, .int (m.1 2 3)] m) (fun r2 m1 => am_b (am_eq r2 (zn 0)) (some (none, m1)) (am_b (am_oi (m1.1 2 3) 700) none (r_Scanner_readNumber_11 d n (am_w (am_w m1.1 2 7 (am_imin (zn 1000000) ((((m1.1 2 7) * (zn 10)) + (m1.1 3 ((m1.1 2 3).toNatClampNeg))) - (zn 48)))) 2 3 ((m1.1 2 3) + (zn 1)), m1.2)))))) := rfl
set_option maxRecDepth 100000 in
theorem n_Scanner_readNumber (d : Nat) (m : am_M) : am_c (d + 1) y_Scanner_readNumber [.ref 2] m = (r_Scanner_readNumber_11 d 29999 (am_w (am_w m.1 2 4 (zn 26)) 2 7 (zn 0), m.2)) := by
  have h : am_c (d + 1) y_Scanner_readNumber [.ref 2] m = r_Scanner_readNumber_0 d fu m := by
    rfl
  rw [h, fu_eq]; exact e_Scanner_readNumber_0 d 29999 m
noncomputable def r_Scanner_readSign_0 (d n : Nat) (a1 : Int32) (m : am_M) : am_R := am_run am_G true (am_c d) 0 pg_Scanner_readSign [260] n 0 [some (.ref 2), some (.int a1), none] m
noncomputable def r_Scanner_readSign_260 (d n : Nat) (x1 : Int32) (x2 : Int32) (m : am_M) : am_R := am_run am_G true (am_c d) 0 pg_Scanner_readSign [260] n 260 [some (.ref 2), some (.int x1), some (.int x2)] m
set_option maxRecDepth 100000 in
theorem e_Scanner_readSign_0 (d n : Nat) (a1 : Int32) (m : am_M) : r_Scanner_readSign_0 d (n + 1) a1 m = (am_bI (am_c d y_Scanner_isSign [.ref 2, .int ((m.1 2 3) + (zn 1)), .int (zn 61)] (am_w m.1 2 3 ((m.1 2 3) + (zn 1)), m.2)) (fun r2 m1 => am_b (am_eq a1 (zn 40)) (r_Scanner_readSign_260 d n a1 r2 (am_w m1.1 2 4 (zn 28), m1.2)) (am_b (am_eq a1 (zn 41)) (r_Scanner_readSign_260 d n a1 r2 (am_w m1.1 2 4 (zn 29), m1.2)) (am_b (am_eq a1 (zn 42)) (r_Scanner_readSign_260 d n a1 r2 (am_w m1.1 2 4 (zn 38), m1.2)) (am_b (am_eq a1 (zn 43)) (r_Scanner_readSign_260 d n a1 r2 (am_w m1.1 2 4 (zn 36), m1.2)) (am_b (am_eq a1 (zn 44)) (r_Scanner_readSign_260 d n a1 r2 (am_w m1.1 2 4 (zn 41), m1.2)) (am_b (am_eq a1 (zn 45)) (r_Scanner_readSign_260 d n a1 r2 (am_w m1.1 2 4 (zn 37), m1.2)) (am_b (am_eq a1 (zn 46)) (r_Scanner_readSign_260 d n a1 r2 (am_w m1.1 2 4 (zn 41), m1.2)) (am_b (am_eq a1 (zn 47)) (r_Scanner_readSign_260 d n a1 r2 (am_w m1.1 2 4 (zn 39), m1.2)) (am_b (am_eq a1 (zn 48)) (r_Scanner_readSign_260 d n a1 r2 (am_w m1.1 2 4 (zn 41), m1.2)) (am_b (am_eq a1 (zn 49)) (r_Scanner_readSign_260 d n a1 r2 (am_w m1.1 2 4 (zn 41), m1.2)) (am_b (am_eq a1 (zn 50)) (r_Scanner_readSign_260 d n a1 r2 (am_w m1.1 2 4 (zn 41), m1.2)) (am_b (am_eq a1 (zn 51)) (r_Scanner_readSign_260 d n a1 r2 (am_w m1.1 2 4 (zn 41), m1.2)) (am_b (am_eq a1 (zn 52)) (r_Scanner_readSign_260 d n a1 r2 (am_w m1.1 2 4 (zn 41), m1.2)) (am_b (am_eq a1 (zn 53)) (r_Scanner_readSign_260 d n a1 r2 (am_w m1.1 2 4 (zn 41), m1.2)) (am_b (am_eq a1 (zn 54)) (r_Scanner_readSign_260 d n a1 r2 (am_w m1.1 2 4 (zn 41), m1.2)) (am_b (am_eq a1 (zn 55)) (r_Scanner_readSign_260 d n a1 r2 (am_w m1.1 2 4 (zn 41), m1.2)) (am_b (am_eq a1 (zn 56)) (r_Scanner_readSign_260 d n a1 r2 (am_w m1.1 2 4 (zn 41), m1.2)) (am_b (am_eq a1 (zn 57)) (r_Scanner_readSign_260 d n a1 r2 (am_w m1.1 2 4 (zn 41), m1.2)) (am_b (am_eq a1 (zn 58)) (r_Scanner_readSign_260 d n a1 r2 (am_w m1.1 2 4 (zn 41), m1.2)) (am_b (am_eq a1 (zn 59)) (r_Scanner_readSign_260 d n a1 r2 (am_w m1.1 2 4 (zn 27), m1.2)) (am_b (am_eq a1 (zn 60)) (am_b (am_eq r2 (zn 0)) (am_bI (am_c d y_Scanner_isSign [.ref 2, .int (m1.1 2 3), .int (zn 62)] m1) (fun r4 m3 => am_b (am_eq r4 (zn 0)) (r_Scanner_readSign_260 d n a1 r2 (am_w m3.1 2 4 (zn 30), m3.2)) (r_Scanner_readSign_260 d n a1 r2 (am_w m3.1 2 4 (zn 33), m3.2)))) (r_Scanner_readSign_260 d n a1 r2 (am_w m1.1 2 4 (zn 31), m1.2))) (am_b (am_eq a1 (zn 61)) (r_Scanner_readSign_260 d n a1 r2 (am_w m1.1 2 4 (zn 32), m1.2)) (am_b (am_eq a1 (zn 62)) (am_b (am_eq r2 (zn 0)) (r_Scanner_readSign_260 d n a1 r2 (am_w m1.1 2 4 (zn 35), m1.2)) (r_Scanner_readSign_260 d n a1 r2 (am_w m1.1 2 4 (zn 34), m1.2))) (r_Scanner_readSign_260 d n a1 r2 (am_w m1.1 2 4 (zn 41), m1.2)))))))))))))))))))))))))) := rfl
set_option maxRecDepth 100000 in
theorem e_Scanner_readSign_260 (d n : Nat) (x1 : Int32) (x2 : Int32) (m : am_M) : r_Scanner_readSign_260 d (n + 1) x1 x2 m = (am_b (am_eq (m.1 2 4) (zn 31)) (some (none, (am_w m.1 2 3 ((m.1 2 3) + (zn 1)), m.2))) (am_b (am_eq (m.1 2 4) (zn 33)) (some (none, (am_w m.1 2 3 ((m.1 2 3) + (zn 1)), m.2))) (am_b (am_eq (m.1 2 4) (zn 34)) (some (none, (am_w m.1 2 3 ((m.1 2 3) + (zn 1)), m.2))) (some (none, m))))) := rfl
set_option maxRecDepth 100000 in
theorem n_Scanner_readSign (d : Nat) (a1 : Int32) (m : am_M) : am_c (d + 1) y_Scanner_readSign [.ref 2, .int a1] m = (am_bI (am_c d y_Scanner_isSign [.ref 2, .int ((m.1 2 3) + (zn 1)), .int (zn 61)] (am_w m.1 2 3 ((m.1 2 3) + (zn 1)), m.2)) (fun r2 m1 => am_b (am_eq a1 (zn 40)) (r_Scanner_readSign_260 d 29999 a1 r2 (am_w m1.1 2 4 (zn 28), m1.2)) (am_b (am_eq a1 (zn 41)) (r_Scanner_readSign_260 d 29999 a1 r2 (am_w m1.1 2 4 (zn 29), m1.2)) (am_b (am_eq a1 (zn 42)) (r_Scanner_readSign_260 d 29999 a1 r2 (am_w m1.1 2 4 (zn 38), m1.2)) (am_b (am_eq a1 (zn 43)) (r_Scanner_readSign_260 d 29999 a1 r2 (am_w m1.1 2 4 (zn 36), m1.2)) (am_b (am_eq a1 (zn 44)) (r_Scanner_readSign_260 d 29999 a1 r2 (am_w m1.1 2 4 (zn 41), m1.2)) (am_b (am_eq a1 (zn 45)) (r_Scanner_readSign_260 d 29999 a1 r2 (am_w m1.1 2 4 (zn 37), m1.2)) (am_b (am_eq a1 (zn 46)) (r_Scanner_readSign_260 d 29999 a1 r2 (am_w m1.1 2 4 (zn 41), m1.2)) (am_b (am_eq a1 (zn 47)) (r_Scanner_readSign_260 d 29999 a1 r2 (am_w m1.1 2 4 (zn 39), m1.2)) (am_b (am_eq a1 (zn 48)) (r_Scanner_readSign_260 d 29999 a1 r2 (am_w m1.1 2 4 (zn 41), m1.2)) (am_b (am_eq a1 (zn 49)) (r_Scanner_readSign_260 d 29999 a1 r2 (am_w m1.1 2 4 (zn 41), m1.2)) (am_b (am_eq a1 (zn 50)) (r_Scanner_readSign_260 d 29999 a1 r2 (am_w m1.1 2 4 (zn 41), m1.2)) (am_b (am_eq a1 (zn 51)) (r_Scanner_readSign_260 d 29999 a1 r2 (am_w m1.1 2 4 (zn 41), m1.2)) (am_b (am_eq a1 (zn 52)) (r_Scanner_readSign_260 d 29999 a1 r2 (am_w m1.1 2 4 (zn 41), m1.2)) (am_b (am_eq a1 (zn 53)) (r_Scanner_readSign_260 d 29999 a1 r2 (am_w m1.1 2 4 (zn 41), m1.2)) (am_b (am_eq a1 (zn 54)) (r_Scanner_readSign_260 d 29999 a1 r2 (am_w m1.1 2 4 (zn 41), m1.2)) (am_b (am_eq a1 (zn 55)) (r_Scanner_readSign_260 d 29999 a1 r2 (am_w m1.1 2 4 (zn 41), m1.2)) (am_b (am_eq a1 (zn 56)) (r_Scanner_readSign_260 d 29999 a1 r2 (am_w m1.1 2 4 (zn 41), m1.2)) (am_b (am_eq a1 (zn 57)) (r_Scanner_readSign_260 d 29999 a1 r2 (am_w m1.1 2 4 (zn 41), m1.2)) (am_b (am_eq a1 (zn 58)) (r_Scanner_readSign_260 d 29999 a1 r2 (am_w m1.1 2 4 (zn 41), m1.2)) (am_b (am_eq a1 (zn 59)) (r_Scanner_readSign_260 d 29999 a1 r2 (am_w m1.1 2 4 (zn 27), m1.2)) (am_b (am_eq a1 (zn 60)) (am_b (am_eq r2 (zn 0)) (am_bI (am_c d y_Scanner_isSign [.ref 2, .int (m1.1 2 3), .int (zn 62)] m1) (fun r4 m3 => am_b (am_eq r4 (zn 0)) (r_Scanner_readSign_260 d 29999 a1 r2 (am_w m3.1 2 4 (zn 30), m3.2)) (r_Scanner_readSign_260 d 29999 a1 r2 (am_w m3.1 2 4 (zn 33), m3.2)))) (r_Scanner_readSign_260 d 29999 a1 r2 (am_w m1.1 2 4 (zn 31), m1.2))) (am_b (am_eq a1 (zn 61)) (r_Scanner_readSign_260 d 29999 a1 r2 (am_w m1.1 2 4 (zn 32), m1.2)) (am_b (am_eq a1 (zn 62)) (am_b (am_eq r2 (zn 0)) (r_Scanner_readSign_260 d 29999 a1 r2 (am_w m1.1 2 4 (zn 35), m1.2)) (r_Scanner_readSign_260 d 29999 a1 r2 (am_w m1.1 2 4 (zn 34), m1.2))) (r_Scanner_readSign_260 d 29999 a1 r2 (am_w m1.1 2 4 (zn 41), m1.2)))))))))))))))))))))))))) := by
  have h : am_c (d + 1) y_Scanner_readSign [.ref 2, .int a1] m = r_Scanner_readSign_0 d fu a1 m := by
    rfl
  rw [h, fu_eq]; exact e_Scanner_readSign_0 d 29999 a1 m
noncomputable def r_Scene_begin_0 (k : Nat) (d n : Nat) (m : am_M) : am_R := am_run am_G true (am_c d) 0 pg_Scene_begin [23] n 0 [some (.ref k), some (.ref 27), none] m
noncomputable def r_Scene_begin_23 (k : Nat) (d n : Nat) (x2 : Int32) (m : am_M) : am_R := am_run am_G true (am_c d) 0 pg_Scene_begin [23] n 23 [some (.ref k), some (.ref 27), some (.int x2)] m
set_option maxRecDepth 100000 in
theorem e_Scene_begin_0 {k : Nat} (hk : sc_k k) (d n : Nat) (m : am_M) : r_Scene_begin_0 k d (n + 1) m = (r_Scene_begin_23 k d n (zn 0) (am_w (am_w (am_w m.1 k 0 (m.1 27 0)) k 3 (zn 0)) k 6 (m.1 27 8), m.2)) := by
  rcases hk with rfl | rfl | rfl | rfl | rfl <;> rfl
set_option maxRecDepth 100000 in
theorem e_Scene_begin_23 {k : Nat} (hk : sc_k k) (d n : Nat) (x2 : Int32) (m : am_M) : r_Scene_begin_23 k d (n + 1) x2 m = (am_b (am_le (zn 5) x2) (some (none, (am_w (am_w (am_wc (am_wc (am_w m.1 k 9 (m.1 27 11)) 37 (k + 5) 0 0 10) 38 (k + 6) 0 0 10) k 10 (zn 0)) k 11 (m.1 27 16), m.2))) (am_b (am_oi x2 5) none (am_b (am_oi x2 5) none (am_b (am_oi x2 5) none (am_b (am_oi x2 5) none (r_Scene_begin_23 k d n (x2 + (zn 1)) (am_w (am_w (am_w m.1 (k + 1) x2.toNatClampNeg x2) (k + 4) x2.toNatClampNeg x2) (k + 3) x2.toNatClampNeg (m.1 35 x2.toNatClampNeg), m.2))))))) := by
  rcases hk with rfl | rfl | rfl | rfl | rfl <;> rfl
set_option maxRecDepth 100000 in
theorem n_Scene_begin {k : Nat} (hk : sc_k k) (d : Nat) (m : am_M) : am_c (d + 1) y_Scene_begin [.ref k, .ref 27] m = (r_Scene_begin_23 k d 29999 (zn 0) (am_w (am_w (am_w m.1 k 0 (m.1 27 0)) k 3 (zn 0)) k 6 (m.1 27 8), m.2)) := by
  have h : am_c (d + 1) y_Scene_begin [.ref k, .ref 27] m = r_Scene_begin_0 k d fu m := by
    rcases hk with rfl | rfl | rfl | rfl | rfl <;> rfl
  rw [h, fu_eq]; exact e_Scene_begin_0 hk d 29999 m
noncomputable def r_Scene_copyFrom_0 (k : Nat) (j : Nat) (d n : Nat) (m : am_M) : am_R := am_run am_G true (am_c d) 0 pg_Scene_copyFrom [] n 0 [some (.ref k), some (.ref j)] m
set_option maxRecDepth 100000 in
theorem e_Scene_copyFrom_0 {k : Nat} (hk : sc_k k) {j : Nat} (hj : sc_k j) (d n : Nat) (m : am_M) : r_Scene_copyFrom_0 k j d (n + 1) m = (some (none, (am_w (am_w (am_w (am_wc (am_wc (am_w (am_wc (am_wc (am_w (am_wc (am_wc (am_w m.1 k 0 (m.1 j 0)) (j + 1) (k + 1) 0 0 5) (j + 2) (k + 2) 0 0 5) k 3 (m.1 j 3)) (j + 3) (k + 3) 0 0 5) (j + 4) (k + 4) 0 0 5) k 6 (m.1 j 6)) (j + 5) (k + 5) 0 0 10) (j + 6) (k + 6) 0 0 10) k 9 (m.1 j 9)) k 10 (m.1 j 10)) k 11 (m.1 j 11), m.2))) := by
  rcases hk with rfl | rfl | rfl | rfl | rfl <;> rcases hj with rfl | rfl | rfl | rfl | rfl <;> rfl
set_option maxRecDepth 100000 in
theorem n_Scene_copyFrom {k : Nat} (hk : sc_k k) {j : Nat} (hj : sc_k j) (d : Nat) (m : am_M) : am_c (d + 1) y_Scene_copyFrom [.ref k, .ref j] m = (some (none, (am_w (am_w (am_w (am_wc (am_wc (am_w (am_wc (am_wc (am_w (am_wc (am_wc (am_w m.1 k 0 (m.1 j 0)) (j + 1) (k + 1) 0 0 5) (j + 2) (k + 2) 0 0 5) k 3 (m.1 j 3)) (j + 3) (k + 3) 0 0 5) (j + 4) (k + 4) 0 0 5) k 6 (m.1 j 6)) (j + 5) (k + 5) 0 0 10) (j + 6) (k + 6) 0 0 10) k 9 (m.1 j 9)) k 10 (m.1 j 10)) k 11 (m.1 j 11), m.2))) := by
  have h : am_c (d + 1) y_Scene_copyFrom [.ref k, .ref j] m = r_Scene_copyFrom_0 k j d fu m := by
    rcases hk with rfl | rfl | rfl | rfl | rfl <;> rcases hj with rfl | rfl | rfl | rfl | rfl <;> rfl
  rw [h, fu_eq]; exact e_Scene_copyFrom_0 hk hj d 29999 m
noncomputable def r_Scene_exchangeTurns_0 (k : Nat) (d n : Nat) (a1 : Int32) (a2 : Int32) (m : am_M) : am_R := am_run am_G true (am_c d) 0 pg_Scene_exchangeTurns [] n 0 [some (.ref k), some (.int a1), some (.int a2), none, none] m
set_option maxRecDepth 100000 in
theorem e_Scene_exchangeTurns_0 {k : Nat} (hk : sc_k k) (d n : Nat) (a1 : Int32) (a2 : Int32) (m : am_M) : r_Scene_exchangeTurns_0 k d (n + 1) a1 a2 m = (am_bI (am_c d y_Scene_turnOf [.ref k, .int a1] m) (fun r2 m1 => am_bI (am_c d y_Scene_turnOf [.ref k, .int a2] m1) (fun r4 m3 => am_b (am_eq r2 zm) (some (none, m3)) (am_b (am_eq r4 zm) (some (none, m3)) (am_b (am_oi r2 5) none (am_b (am_oi r4 5) none (some (none, (am_w (am_w m3.1 (k + 4) r2.toNatClampNeg a2) (k + 4) r4.toNatClampNeg a1, m3.2))))))))) := by
  rcases hk with rfl | rfl | rfl | rfl | rfl <;> rfl
set_option maxRecDepth 100000 in
theorem n_Scene_exchangeTurns {k : Nat} (hk : sc_k k) (d : Nat) (a1 : Int32) (a2 : Int32) (m : am_M) : am_c (d + 1) y_Scene_exchangeTurns [.ref k, .int a1, .int a2] m = (am_bI (am_c d y_Scene_turnOf [.ref k, .int a1] m) (fun r2 m1 => am_bI (am_c d y_Scene_turnOf [.ref k, .int a2] m1) (fun r4 m3 => am_b (am_eq r2 zm) (some (none, m3)) (am_b (am_eq r4 zm) (some (none, m3)) (am_b (am_oi r2 5) none (am_b (am_oi r4 5) none (some (none, (am_w (am_w m3.1 (k + 4) r2.toNatClampNeg a2) (k + 4) r4.toNatClampNeg a1, m3.2))))))))) := by
  have h : am_c (d + 1) y_Scene_exchangeTurns [.ref k, .int a1, .int a2] m = r_Scene_exchangeTurns_0 k d fu a1 a2 m := by
    rcases hk with rfl | rfl | rfl | rfl | rfl <;> rfl
  rw [h, fu_eq]; exact e_Scene_exchangeTurns_0 hk d 29999 a1 a2 m
noncomputable def r_Scene_takeDown_0 (k : Nat) (d n : Nat) (a1 : Int32) (m : am_M) : am_R := am_run am_G true (am_c d) 0 pg_Scene_takeDown [24] n 0 [some (.ref k), some (.int a1), none, none] m
noncomputable def r_Scene_takeDown_24 (k : Nat) (d n : Nat) (x1 : Int32) (x2 : Int32) (x3 : Int32) (m : am_M) : am_R := am_run am_G true (am_c d) 0 pg_Scene_takeDown [24] n 24 [some (.ref k), some (.int x1), some (.int x2), some (.int x3)] m
set_option maxRecDepth 100000 in
theorem e_Scene_takeDown_0 {k : Nat} (hk : sc_k k) (d n : Nat) (a1 : Int32) (m : am_M) : r_Scene_takeDown_0 k d (n + 1) a1 m = (am_bI (am_c d y_Scene_turnOf [.ref k, .int a1] m) (fun r2 m1 => am_b (am_eq r2 zm) (some (none, m1)) (r_Scene_takeDown_24 k d n a1 r2 r2 (am_w m1.1 k 6 ((m1.1 k 6) - (zn 1)), m1.2)))) := by
  rcases hk with rfl | rfl | rfl | rfl | rfl <;> rfl
set_option maxRecDepth 100000 in
theorem e_Scene_takeDown_24 {k : Nat} (hk : sc_k k) (d n : Nat) (x1 : Int32) (x2 : Int32) (x3 : Int32) (m : am_M) : r_Scene_takeDown_24 k d (n + 1) x1 x2 x3 m = (am_b (am_le (m.1 k 6) x3) (some (none, m)) (am_b (am_oi (x3 + (zn 1)) 5) none (am_b (am_oi x3 5) none (r_Scene_takeDown_24 k d n x1 x2 (x3 + (zn 1)) (am_w m.1 (k + 4) x3.toNatClampNeg (m.1 (k + 4) ((x3 + (zn 1)).toNatClampNeg)), m.2))))) := by
  rcases hk with rfl | rfl | rfl | rfl | rfl <;> rfl
set_option maxRecDepth 100000 in
theorem n_Scene_takeDown {k : Nat} (hk : sc_k k) (d : Nat) (a1 : Int32) (m : am_M) : am_c (d + 1) y_Scene_takeDown [.ref k, .int a1] m = (am_bI (am_c d y_Scene_turnOf [.ref k, .int a1] m) (fun r2 m1 => am_b (am_eq r2 zm) (some (none, m1)) (r_Scene_takeDown_24 k d 29999 a1 r2 r2 (am_w m1.1 k 6 ((m1.1 k 6) - (zn 1)), m1.2)))) := by
  have h : am_c (d + 1) y_Scene_takeDown [.ref k, .int a1] m = r_Scene_takeDown_0 k d fu a1 m := by
    rcases hk with rfl | rfl | rfl | rfl | rfl <;> rfl
  rw [h, fu_eq]; exact e_Scene_takeDown_0 hk d 29999 a1 m
noncomputable def r_Scene_findMeeting_0 (k : Nat) (d n : Nat) (a1 : Int32) (a2 : Int32) (m : am_M) : am_R := am_run am_G true (am_c d) 1 pg_Scene_findMeeting [] n 0 [some (.ref k), some (.int a1), some (.int a2)] m
set_option maxRecDepth 100000 in
theorem e_Scene_findMeeting_0 {k : Nat} (hk : sc_k k) (d n : Nat) (a1 : Int32) (a2 : Int32) (m : am_M) : r_Scene_findMeeting_0 k d (n + 1) a1 a2 m = (am_bI (am_c d y_C_findPair [.ref (k + 5), .ref (k + 6), .int (m.1 k 9), .int a1, .int a2] m) (fun r2 m1 => some (some (.int r2), m1))) := by
  rcases hk with rfl | rfl | rfl | rfl | rfl <;> rfl
set_option maxRecDepth 100000 in
theorem n_Scene_findMeeting {k : Nat} (hk : sc_k k) (d : Nat) (a1 : Int32) (a2 : Int32) (m : am_M) : am_c (d + 1) y_Scene_findMeeting [.ref k, .int a1, .int a2] m = (am_bI (am_c d y_C_findPair [.ref (k + 5), .ref (k + 6), .int (m.1 k 9), .int a1, .int a2] m) (fun r2 m1 => some (some (.int r2), m1))) := by
  have h : am_c (d + 1) y_Scene_findMeeting [.ref k, .int a1, .int a2] m = r_Scene_findMeeting_0 k d fu a1 a2 m := by
    rcases hk with rfl | rfl | rfl | rfl | rfl <;> rfl
  rw [h, fu_eq]; exact e_Scene_findMeeting_0 hk d 29999 a1 a2 m
noncomputable def r_Scene_swapIfMoreOwn_0 (k : Nat) (d n : Nat) (a1 : Int32) (a2 : Int32) (m : am_M) : am_R := am_run am_G true (am_c d) 0 pg_Scene_swapIfMoreOwn [] n 0 [some (.ref k), some (.int a1), some (.int a2), none, none] m
set_option maxRecDepth 100000 in
theorem e_Scene_swapIfMoreOwn_0 {k : Nat} (hk : sc_k k) (d n : Nat) (a1 : Int32) (a2 : Int32) (m : am_M) : r_Scene_swapIfMoreOwn_0 k d (n + 1) a1 a2 m = (am_b (am_oi a1 5) none (am_b (am_eq (m.1 (k + 1) a1.toNatClampNeg) a1) (am_b (am_oi a2 5) none (am_b (am_eq (m.1 (k + 1) a2.toNatClampNeg) a2) (am_b (am_oi a2 5) none (am_b (am_eq (m.1 (k + 1) a2.toNatClampNeg) a1) (am_b (am_oi a1 5) none (am_b (am_eq (m.1 (k + 1) a1.toNatClampNeg) a2) (am_b (am_le ((zn 1) + (zn 1)) ((zn 1) + (zn 1))) (some (none, m)) (am_bV (am_c d y_Scene_exchange [.ref k, .int a1, .int a2] m) (fun m16 => some (none, m16)))) (am_b (am_le ((zn 1) + (zn 0)) ((zn 1) + (zn 1))) (some (none, m)) (am_bV (am_c d y_Scene_exchange [.ref k, .int a1, .int a2] m) (fun m15 => some (none, m15)))))) (am_b (am_oi a1 5) none (am_b (am_eq (m.1 (k + 1) a1.toNatClampNeg) a2) (am_b (am_le ((zn 0) + (zn 1)) ((zn 1) + (zn 1))) (some (none, m)) (am_bV (am_c d y_Scene_exchange [.ref k, .int a1, .int a2] m) (fun m14 => some (none, m14)))) (am_b (am_le ((zn 0) + (zn 0)) ((zn 1) + (zn 1))) (some (none, m)) (am_bV (am_c d y_Scene_exchange [.ref k, .int a1, .int a2] m) (fun m13 => some (none, m13)))))))) (am_b (am_oi a2 5) none (am_b (am_eq (m.1 (k + 1) a2.toNatClampNeg) a1) (am_b (am_oi a1 5) none (am_b (am_eq (m.1 (k + 1) a1.toNatClampNeg) a2) (am_b (am_le ((zn 1) + (zn 1)) ((zn 1) + (zn 0))) (some (none, m)) (am_bV (am_c d y_Scene_exchange [.ref k, .int a1, .int a2] m) (fun m12 => some (none, m12)))) (am_b (am_le ((zn 1) + (zn 0)) ((zn 1) + (zn 0))) (some (none, m)) (am_bV (am_c d y_Scene_exchange [.ref k, .int a1, .int a2] m) (fun m11 => some (none, m11)))))) (am_b (am_oi a1 5) none (am_b (am_eq (m.1 (k + 1) a1.toNatClampNeg) a2) (am_b (am_le ((zn 0) + (zn 1)) ((zn 1) + (zn 0))) (some (none, m)) (am_bV (am_c d y_Scene_exchange [.ref k, .int a1, .int a2] m) (fun m10 => some (none, m10)))) (am_b (am_le ((zn 0) + (zn 0)) ((zn 1) + (zn 0))) (some (none, m)) (am_bV (am_c d y_Scene_exchange [.ref k, .int a1, .int a2] m) (fun m9 => some (none, m9)))))))))) (am_b (am_oi a2 5) none (am_b (am_eq (m.1 (k + 1) a2.toNatClampNeg) a2) (am_b (am_oi a2 5) none (am_b (am_eq (m.1 (k + 1) a2.toNatClampNeg) a1) (am_b (am_oi a1 5) none (am_b (am_eq (m.1 (k + 1) a1.toNatClampNeg) a2) (am_b (am_le ((zn 1) + (zn 1)) ((zn 0) + (zn 1))) (some (none, m)) (am_bV (am_c d y_Scene_exchange [.ref k, .int a1, .int a2] m) (fun m8 => some (none, m8)))) (am_b (am_le ((zn 1) + (zn 0)) ((zn 0) + (zn 1))) (some (none, m)) (am_bV (am_c d y_Scene_exchange [.ref k, .int a1, .int a2] m) (fun m7 => some (none, m7)))))) (am_b (am_oi a1 5) none (am_b (am_eq (m.1 (k + 1) a1.toNatClampNeg) a2) (am_b (am_le ((zn 0) + (zn 1)) ((zn 0) + (zn 1))) (some (none, m)) (am_bV (am_c d y_Scene_exchange [.ref k, .int a1, .int a2] m) (fun m6 => some (none, m6)))) (am_b (am_le ((zn 0) + (zn 0)) ((zn 0) + (zn 1))) (some (none, m)) (am_bV (am_c d y_Scene_exchange [.ref k, .int a1, .int a2] m) (fun m5 => some (none, m5)))))))) (am_b (am_oi a2 5) none (am_b (am_eq (m.1 (k + 1) a2.toNatClampNeg) a1) (am_b (am_oi a1 5) none (am_b (am_eq (m.1 (k + 1) a1.toNatClampNeg) a2) (am_b (am_le ((zn 1) + (zn 1)) ((zn 0) + (zn 0))) (some (none, m)) (am_bV (am_c d y_Scene_exchange [.ref k, .int a1, .int a2] m) (fun m4 => some (none, m4)))) (am_b (am_le ((zn 1) + (zn 0)) ((zn 0) + (zn 0))) (some (none, m)) (am_bV (am_c d y_Scene_exchange [.ref k, .int a1, .int a2] m) (fun m3 => some (none, m3)))))) (am_b (am_oi a1 5) none (am_b (am_eq (m.1 (k + 1) a1.toNatClampNeg) a2) (am_b (am_le ((zn 0) + (zn 1)) ((zn 0) + (zn 0))) (some (none, m)) (am_bV (am_c d y_Scene_exchange [.ref k, .int a1, .int a2] m) (fun m2 => some (none, m2)))) (am_b (am_le ((zn 0) + (zn 0)) ((zn 0) + (zn 0))) (some (none, m)) (am_bV (am_c d y_Scene_exchange [.ref k, .int a1, .int a2] m) (fun m1 => some (none, m1)))))))))))) := by
  rcases hk with rfl | rfl | rfl | rfl | rfl <;> rfl
set_option maxRecDepth 100000 in
theorem n_Scene_swapIfMoreOwn {k : Nat} (hk : sc_k k) (d : Nat) (a1 : Int32) (a2 : Int32) (m : am_M) : am_c (d + 1) y_Scene_swapIfMoreOwn [.ref k, .int a1, .int a2] m = (am_b (am_oi a1 5) none (am_b (am_eq (m.1 (k + 1) a1.toNatClampNeg) a1) (am_b (am_oi a2 5) none (am_b (am_eq (m.1 (k + 1) a2.toNatClampNeg) a2) (am_b (am_oi a2 5) none (am_b (am_eq (m.1 (k + 1) a2.toNatClampNeg) a1) (am_b (am_oi a1 5) none (am_b (am_eq (m.1 (k + 1) a1.toNatClampNeg) a2) (am_b (am_le ((zn 1) + (zn 1)) ((zn 1) + (zn 1))) (some (none, m)) (am_bV (am_c d y_Scene_exchange [.ref k, .int a1, .int a2] m) (fun m16 => some (none, m16)))) (am_b (am_le ((zn 1) + (zn 0)) ((zn 1) + (zn 1))) (some (none, m)) (am_bV (am_c d y_Scene_exchange [.ref k, .int a1, .int a2] m) (fun m15 => some (none, m15)))))) (am_b (am_oi a1 5) none (am_b (am_eq (m.1 (k + 1) a1.toNatClampNeg) a2) (am_b (am_le ((zn 0) + (zn 1)) ((zn 1) + (zn 1))) (some (none, m)) (am_bV (am_c d y_Scene_exchange [.ref k, .int a1, .int a2] m) (fun m14 => some (none, m14)))) (am_b (am_le ((zn 0) + (zn 0)) ((zn 1) + (zn 1))) (some (none, m)) (am_bV (am_c d y_Scene_exchange [.ref k, .int a1, .int a2] m) (fun m13 => some (none, m13)))))))) (am_b (am_oi a2 5) none (am_b (am_eq (m.1 (k + 1) a2.toNatClampNeg) a1) (am_b (am_oi a1 5) none (am_b (am_eq (m.1 (k + 1) a1.toNatClampNeg) a2) (am_b (am_le ((zn 1) + (zn 1)) ((zn 1) + (zn 0))) (some (none, m)) (am_bV (am_c d y_Scene_exchange [.ref k, .int a1, .int a2] m) (fun m12 => some (none, m12)))) (am_b (am_le ((zn 1) + (zn 0)) ((zn 1) + (zn 0))) (some (none, m)) (am_bV (am_c d y_Scene_exchange [.ref k, .int a1, .int a2] m) (fun m11 => some (none, m11)))))) (am_b (am_oi a1 5) none (am_b (am_eq (m.1 (k + 1) a1.toNatClampNeg) a2) (am_b (am_le ((zn 0) + (zn 1)) ((zn 1) + (zn 0))) (some (none, m)) (am_bV (am_c d y_Scene_exchange [.ref k, .int a1, .int a2] m) (fun m10 => some (none, m10)))) (am_b (am_le ((zn 0) + (zn 0)) ((zn 1) + (zn 0))) (some (none, m)) (am_bV (am_c d y_Scene_exchange [.ref k, .int a1, .int a2] m) (fun m9 => some (none, m9)))))))))) (am_b (am_oi a2 5) none (am_b (am_eq (m.1 (k + 1) a2.toNatClampNeg) a2) (am_b (am_oi a2 5) none (am_b (am_eq (m.1 (k + 1) a2.toNatClampNeg) a1) (am_b (am_oi a1 5) none (am_b (am_eq (m.1 (k + 1) a1.toNatClampNeg) a2) (am_b (am_le ((zn 1) + (zn 1)) ((zn 0) + (zn 1))) (some (none, m)) (am_bV (am_c d y_Scene_exchange [.ref k, .int a1, .int a2] m) (fun m8 => some (none, m8)))) (am_b (am_le ((zn 1) + (zn 0)) ((zn 0) + (zn 1))) (some (none, m)) (am_bV (am_c d y_Scene_exchange [.ref k, .int a1, .int a2] m) (fun m7 => some (none, m7)))))) (am_b (am_oi a1 5) none (am_b (am_eq (m.1 (k + 1) a1.toNatClampNeg) a2) (am_b (am_le ((zn 0) + (zn 1)) ((zn 0) + (zn 1))) (some (none, m)) (am_bV (am_c d y_Scene_exchange [.ref k, .int a1, .int a2] m) (fun m6 => some (none, m6)))) (am_b (am_le ((zn 0) + (zn 0)) ((zn 0) + (zn 1))) (some (none, m)) (am_bV (am_c d y_Scene_exchange [.ref k, .int a1, .int a2] m) (fun m5 => some (none, m5)))))))) (am_b (am_oi a2 5) none (am_b (am_eq (m.1 (k + 1) a2.toNatClampNeg) a1) (am_b (am_oi a1 5) none (am_b (am_eq (m.1 (k + 1) a1.toNatClampNeg) a2) (am_b (am_le ((zn 1) + (zn 1)) ((zn 0) + (zn 0))) (some (none, m)) (am_bV (am_c d y_Scene_exchange [.ref k, .int a1, .int a2] m) (fun m4 => some (none, m4)))) (am_b (am_le ((zn 1) + (zn 0)) ((zn 0) + (zn 0))) (some (none, m)) (am_bV (am_c d y_Scene_exchange [.ref k, .int a1, .int a2] m) (fun m3 => some (none, m3)))))) (am_b (am_oi a1 5) none (am_b (am_eq (m.1 (k + 1) a1.toNatClampNeg) a2) (am_b (am_le ((zn 0) + (zn 1)) ((zn 0) + (zn 0))) (some (none, m)) (am_bV (am_c d y_Scene_exchange [.ref k, .int a1, .int a2] m) (fun m2 => some (none, m2)))) (am_b (am_le ((zn 0) + (zn 0)) ((zn 0) + (zn 0))) (some (none, m)) (am_bV (am_c d y_Scene_exchange [.ref k, .int a1, .int a2] m) (fun m1 => some (none, m1)))))))))))) := by
  have h : am_c (d + 1) y_Scene_swapIfMoreOwn [.ref k, .int a1, .int a2] m = r_Scene_swapIfMoreOwn_0 k d fu a1 a2 m := by
    rcases hk with rfl | rfl | rfl | rfl | rfl <;> rfl
  rw [h, fu_eq]; exact e_Scene_swapIfMoreOwn_0 hk d 29999 a1 a2 m
noncomputable def r_Swapper_find_0 (k : Nat) (d n : Nat) (m : am_M) : am_R := am_run am_G true (am_c d) 1 pg_Swapper_find [29,62] n 0 [some (.ref 92), some (.ref k), none, none, none] m
noncomputable def r_Swapper_find_29 (k : Nat) (d n : Nat) (x2 : Int32) (x3 : Int32) (x4 : Option Value) (m : am_M) : am_R := am_run am_G true (am_c d) 1 pg_Swapper_find [29,62] n 29 [some (.ref 92), some (.ref k), some (.int x2), some (.int x3), x4] m
noncomputable def r_Swapper_find_62 (k : Nat) (d n : Nat) (x2 : Int32) (x3 : Int32) (x4 : Int32) (m : am_M) : am_R := am_run am_G true (am_c d) 1 pg_Swapper_find [29,62] n 62 [some (.ref 92), some (.ref k), some (.int x2), some (.int x3), some (.int x4)] m
set_option maxRecDepth 100000 in
theorem e_Swapper_find_0 {k : Nat} (hk : sc_k k) (d n : Nat) (m : am_M) : r_Swapper_find_0 k d (n + 1) m = (am_bI (am_c d y_Swapper_goalOf [.ref k] m) (fun r2 m1 => am_bI (am_c d y_Swapper_stateOf [.ref k] m1) (fun r4 m3 => r_Swapper_find_29 k d n r2 (zn 0) none (am_w (am_w (am_w m3.1 93 0 r4) 94 0 zm) 92 4 (zn 1), m3.2)))) := by
  rcases hk with rfl | rfl | rfl | rfl | rfl <;> rfl
set_option maxRecDepth 100000 in
theorem e_Swapper_find_29 {k : Nat} (hk : sc_k k) (d n : Nat) (x2 : Int32) (x3 : Int32) (x4 : Option Value) (m : am_M) : r_Swapper_find_29 k d (n + 1) x2 x3 x4 m = (am_b (am_le (m.1 92 4) x3) (some (some (.int zq), m)) (am_b (am_le (zn 120) x3) (some (some (.int zq), m)) (am_b (am_oi x3 120) none (am_b (am_eq (m.1 93 x3.toNatClampNeg) x2) (am_bI (am_c d y_Swapper_traceBack [.ref 92, .int x3] m) (fun r2 m1 => some (some (.int r2), m1))) (r_Swapper_find_62 k d n x2 x3 (zn 0) m))))) := by
  rcases hk with rfl | rfl | rfl | rfl | rfl <;> rfl
set_option maxRecDepth 100000 in
theorem e_Swapper_find_62 {k : Nat} (hk : sc_k k) (d n : Nat) (x2 : Int32) (x3 : Int32) (x4 : Int32) (m : am_M) : r_Swapper_find_62 k d (n + 1) x2 x3 x4 m = (am_b (am_le (m.1 k 9) x4) (r_Swapper_find_29 k d n x2 (x3 + (zn 1)) (some (.int x4)) m) (am_b (am_oi x3 120) none (am_b (am_oi x4 10) none (am_b (am_oi x4 10) none (am_bI (am_c d y_Swapper_swapped [.int (m.1 93 x3.toNatClampNeg), .int (m.1 (k + 5) x4.toNatClampNeg), .int (m.1 (k + 6) x4.toNatClampNeg)] m) (fun r2 m1 => am_bV (am_c d y_Swapper_reach [.ref 92, .int r2, .int x3, .int x4] m1) (fun m3 => r_Swapper_find_62 k d n x2 x3 (x4 + (zn 1)) m3))))))) := by
  rcases hk with rfl | rfl | rfl | rfl | rfl <;> rfl
set_option maxRecDepth 100000 in
theorem n_Swapper_find {k : Nat} (hk : sc_k k) (d : Nat) (m : am_M) : am_c (d + 1) y_Swapper_find [.ref 92, .ref k] m = (am_bI (am_c d y_Swapper_goalOf [.ref k] m) (fun r2 m1 => am_bI (am_c d y_Swapper_stateOf [.ref k] m1) (fun r4 m3 => r_Swapper_find_29 k d 29999 r2 (zn 0) none (am_w (am_w (am_w m3.1 93 0 r4) 94 0 zm) 92 4 (zn 1), m3.2)))) := by
  have h : am_c (d + 1) y_Swapper_find [.ref 92, .ref k] m = r_Swapper_find_0 k d fu m := by
    rcases hk with rfl | rfl | rfl | rfl | rfl <;> rfl
  rw [h, fu_eq]; exact e_Swapper_find_0 hk d 29999 m
noncomputable def r_Swapper_pairOf_0 (k : Nat) (d n : Nat) (a2 : Int32) (m : am_M) : am_R := am_run am_G true (am_c d) 1 pg_Swapper_pairOf [] n 0 [some (.ref 92), some (.ref k), some (.int a2), none, none] m
set_option maxRecDepth 100000 in
theorem e_Swapper_pairOf_0 {k : Nat} (hk : sc_k k) (d n : Nat) (a2 : Int32) (m : am_M) : r_Swapper_pairOf_0 k d (n + 1) a2 m = (am_b (am_lt a2 (zn 0)) (some (some (.int zq), m)) (am_b (am_le (zn 120) a2) (some (some (.int zq), m)) (am_b (am_oi a2 120) none (am_b (am_lt (m.1 96 a2.toNatClampNeg) (m.1 k 9)) (am_b (am_oi a2 120) none (am_b (am_oi (m.1 96 a2.toNatClampNeg) 10) none (am_b (am_oi a2 120) none (am_b (am_oi (m.1 96 a2.toNatClampNeg) 10) none (some (some (.int (((zn 10) * (am_imin (m.1 (k + 5) ((m.1 96 a2.toNatClampNeg).toNatClampNeg)) (m.1 (k + 6) ((m.1 96 a2.toNatClampNeg).toNatClampNeg)))) + (am_imax (m.1 (k + 5) ((m.1 96 a2.toNatClampNeg).toNatClampNeg)) (m.1 (k + 6) ((m.1 96 a2.toNatClampNeg).toNatClampNeg))))), m)))))) (some (some (.int zq), m)))))) := by
  rcases hk with rfl | rfl | rfl | rfl | rfl <;> rfl
set_option maxRecDepth 100000 in
theorem n_Swapper_pairOf {k : Nat} (hk : sc_k k) (d : Nat) (a2 : Int32) (m : am_M) : am_c (d + 1) y_Swapper_pairOf [.ref 92, .ref k, .int a2] m = (am_b (am_lt a2 (zn 0)) (some (some (.int zq), m)) (am_b (am_le (zn 120) a2) (some (some (.int zq), m)) (am_b (am_oi a2 120) none (am_b (am_lt (m.1 96 a2.toNatClampNeg) (m.1 k 9)) (am_b (am_oi a2 120) none (am_b (am_oi (m.1 96 a2.toNatClampNeg) 10) none (am_b (am_oi a2 120) none (am_b (am_oi (m.1 96 a2.toNatClampNeg) 10) none (some (some (.int (((zn 10) * (am_imin (m.1 (k + 5) ((m.1 96 a2.toNatClampNeg).toNatClampNeg)) (m.1 (k + 6) ((m.1 96 a2.toNatClampNeg).toNatClampNeg)))) + (am_imax (m.1 (k + 5) ((m.1 96 a2.toNatClampNeg).toNatClampNeg)) (m.1 (k + 6) ((m.1 96 a2.toNatClampNeg).toNatClampNeg))))), m)))))) (some (some (.int zq), m)))))) := by
  have h : am_c (d + 1) y_Swapper_pairOf [.ref 92, .ref k, .int a2] m = r_Swapper_pairOf_0 k d fu a2 m := by
    rcases hk with rfl | rfl | rfl | rfl | rfl <;> rfl
  rw [h, fu_eq]; exact e_Swapper_pairOf_0 hk d 29999 a2 m
noncomputable def r_Told_clear_0 (d n : Nat) (m : am_M) : am_R := am_run am_G true (am_c d) 0 pg_Told_clear [] n 0 [some (.ref 5)] m
set_option maxRecDepth 100000 in
theorem e_Told_clear_0 (d n : Nat) (m : am_M) : r_Told_clear_0 d (n + 1) m = (am_bV (am_c d y_Laws_clear [.ref 17] (am_w (am_w (am_w (am_w (am_w (am_w m.1 5 0 (zn 0)) 5 8 (zn 0)) 5 11 (zn 0)) 5 14 (zn 0)) 5 15 (zn 0)) 5 16 (zn 0), m.2)) (fun m1 => some (none, m1))) := rfl
set_option maxRecDepth 100000 in
theorem n_Told_clear (d : Nat) (m : am_M) : am_c (d + 1) y_Told_clear [.ref 5] m = (am_bV (am_c d y_Laws_clear [.ref 17] (am_w (am_w (am_w (am_w (am_w (am_w m.1 5 0 (zn 0)) 5 8 (zn 0)) 5 11 (zn 0)) 5 14 (zn 0)) 5 15 (zn 0)) 5 16 (zn 0), m.2)) (fun m1 => some (none, m1))) := by
  have h : am_c (d + 1) y_Told_clear [.ref 5] m = r_Told_clear_0 d fu m := by
    rfl
  rw [h, fu_eq]; exact e_Told_clear_0 d 29999 m
noncomputable def r_Told_findMeeting_0 (d n : Nat) (a1 : Int32) (a2 : Int32) (m : am_M) : am_R := am_run am_G true (am_c d) 1 pg_Told_findMeeting [] n 0 [some (.ref 5), some (.int a1), some (.int a2)] m
set_option maxRecDepth 100000 in
theorem e_Told_findMeeting_0 (d n : Nat) (a1 : Int32) (a2 : Int32) (m : am_M) : r_Told_findMeeting_0 d (n + 1) a1 a2 m = (am_bI (am_c d y_C_findPair [.ref 15, .ref 16, .int (m.1 5 11), .int a1, .int a2] m) (fun r2 m1 => some (some (.int r2), m1))) := rfl
set_option maxRecDepth 100000 in
theorem n_Told_findMeeting (d : Nat) (a1 : Int32) (a2 : Int32) (m : am_M) : am_c (d + 1) y_Told_findMeeting [.ref 5, .int a1, .int a2] m = (am_bI (am_c d y_C_findPair [.ref 15, .ref 16, .int (m.1 5 11), .int a1, .int a2] m) (fun r2 m1 => some (some (.int r2), m1))) := by
  have h : am_c (d + 1) y_Told_findMeeting [.ref 5, .int a1, .int a2] m = r_Told_findMeeting_0 d fu a1 a2 m := by
    rfl
  rw [h, fu_eq]; exact e_Told_findMeeting_0 d 29999 a1 a2 m
noncomputable def r_Told_lookOf_0 (d n : Nat) (a0 : Int32) (m : am_M) : am_R := am_run am_G true (am_c d) 1 pg_Told_lookOf [] n 0 [some (.int a0), none, none] m
set_option maxRecDepth 100000 in
theorem e_Told_lookOf_0 (d n : Nat) (a0 : Int32) (m : am_M) : r_Told_lookOf_0 d (n + 1) a0 m = (am_bI (am_c d y_Told_moveUpAndLeft [.int a0] m) (fun r2 m1 => am_bI (am_c d y_Told_moveUpAndLeft [.int ((((r2 &&& (zn 292)) >>> ((zn 2) &&& 31)) ||| (r2 &&& (zn 146))) ||| ((r2 &&& (zn 73)) <<< ((zn 2) &&& 31)))] m1) (fun r4 m3 => some (some (.int (am_imin r2 r4)), m3)))) := rfl
set_option maxRecDepth 100000 in
theorem n_Told_lookOf (d : Nat) (a0 : Int32) (m : am_M) : am_c (d + 1) y_Told_lookOf [.int a0] m = (am_bI (am_c d y_Told_moveUpAndLeft [.int a0] m) (fun r2 m1 => am_bI (am_c d y_Told_moveUpAndLeft [.int ((((r2 &&& (zn 292)) >>> ((zn 2) &&& 31)) ||| (r2 &&& (zn 146))) ||| ((r2 &&& (zn 73)) <<< ((zn 2) &&& 31)))] m1) (fun r4 m3 => some (some (.int (am_imin r2 r4)), m3)))) := by
  have h : am_c (d + 1) y_Told_lookOf [.int a0] m = r_Told_lookOf_0 d fu a0 m := by
    rfl
  rw [h, fu_eq]; exact e_Told_lookOf_0 d 29999 a0 m
noncomputable def r_Ways_follow_0 (d n : Nat) (m : am_M) : am_R := am_run am_G true (am_c d) 0 pg_Ways_follow [] n 0 [some (.ref 46), some (.ref 27)] m
set_option maxRecDepth 100000 in
theorem e_Ways_follow_0 (d n : Nat) (m : am_M) : r_Ways_follow_0 d (n + 1) m = (some (none, (am_w (am_wc (am_wc (am_wc m.1 33 47 0 0 5) 34 48 0 0 5) 36 49 0 0 5) 46 3 (m.1 27 14), m.2))) := rfl
set_option maxRecDepth 100000 in
theorem n_Ways_follow (d : Nat) (m : am_M) : am_c (d + 1) y_Ways_follow [.ref 46, .ref 27] m = (some (none, (am_w (am_wc (am_wc (am_wc m.1 33 47 0 0 5) 34 48 0 0 5) 36 49 0 0 5) 46 3 (m.1 27 14), m.2))) := by
  have h : am_c (d + 1) y_Ways_follow [.ref 46, .ref 27] m = r_Ways_follow_0 d fu m := by
    rfl
  rw [h, fu_eq]; exact e_Ways_follow_0 d 29999 m
noncomputable def r_C_feed_0 (d n : Nat) (a1 : Int32) (a2 : Int32) (a3 : Int32) (a4 : Int32) (a5 : Int32) (m : am_M) : am_R := am_run am_G true (am_c d) 1 pg_C_feed [] n 0 [some (.ref 0), some (.int a1), some (.int a2), some (.int a3), some (.int a4), some (.int a5)] m
set_option maxRecDepth 100000 in
theorem e_C_feed_0 (d n : Nat) (a1 : Int32) (a2 : Int32) (a3 : Int32) (a4 : Int32) (a5 : Int32) (m : am_M) : r_C_feed_0 d (n + 1) a1 a2 a3 a4 a5 m = (am_b (am_le ((m.1 0 2) + (zn 20)) (zn 700)) (am_bV (am_c d y_C_putOnTape [.ref 0, .int a1] m) (fun m1 => am_bV (am_c d y_C_putOnTape [.ref 0, .int a2] m1) (fun m2 => am_bV (am_c d y_C_putOnTape [.ref 0, .int a3] m2) (fun m3 => am_bV (am_c d y_C_putOnTape [.ref 0, .int a4] m3) (fun m4 => am_bV (am_c d y_C_putOnTape [.ref 0, .int a5] m4) (fun m5 => some (some (.int (m5.1 0 2)), m5))))))) (some (some (.int zm), m))) := rfl
set_option maxRecDepth 100000 in
theorem n_C_feed (d : Nat) (a1 : Int32) (a2 : Int32) (a3 : Int32) (a4 : Int32) (a5 : Int32) (m : am_M) : am_c (d + 1) y_C_feed [.ref 0, .int a1, .int a2, .int a3, .int a4, .int a5] m = (am_b (am_le ((m.1 0 2) + (zn 20)) (zn 700)) (am_bV (am_c d y_C_putOnTape [.ref 0, .int a1] m) (fun m1 => am_bV (am_c d y_C_putOnTape [.ref 0, .int a2] m1) (fun m2 => am_bV (am_c d y_C_putOnTape [.ref 0, .int a3] m2) (fun m3 => am_bV (am_c d y_C_putOnTape [.ref 0, .int a4] m3) (fun m4 => am_bV (am_c d y_C_putOnTape [.ref 0, .int a5] m4) (fun m5 => some (some (.int (m5.1 0 2)), m5))))))) (some (some (.int zm), m))) := by
  have h : am_c (d + 1) y_C_feed [.ref 0, .int a1, .int a2, .int a3, .int a4, .int a5] m = r_C_feed_0 d fu a1 a2 a3 a4 a5 m := by
    rfl
  rw [h, fu_eq]; exact e_C_feed_0 d 29999 a1 a2 a3 a4 a5 m
noncomputable def r_C_named_0 (d n : Nat) (a1 : Int32) (m : am_M) : am_R := am_run am_G true (am_c d) 1 pg_C_named [] n 0 [some (.ref 0), some (.int a1)] m
set_option maxRecDepth 100000 in
theorem e_C_named_0 (d n : Nat) (a1 : Int32) (m : am_M) : r_C_named_0 d (n + 1) a1 m = (am_bI (am_c d y_Told_thingNamed [.ref 27, .int a1] m) (fun r2 m1 => some (some (.int r2), m1))) := rfl
set_option maxRecDepth 100000 in
theorem n_C_named (d : Nat) (a1 : Int32) (m : am_M) : am_c (d + 1) y_C_named [.ref 0, .int a1] m = (am_bI (am_c d y_Told_thingNamed [.ref 27, .int a1] m) (fun r2 m1 => some (some (.int r2), m1))) := by
  have h : am_c (d + 1) y_C_named [.ref 0, .int a1] m = r_C_named_0 d fu a1 m := by
    rfl
  rw [h, fu_eq]; exact e_C_named_0 d 29999 a1 m
noncomputable def r_C_lamp_0 (d n : Nat) (a1 : Int32) (a2 : Int32) (m : am_M) : am_R := am_run am_G true (am_c d) 1 pg_C_lamp [] n 0 [some (.ref 0), some (.int a1), some (.int a2)] m
set_option maxRecDepth 100000 in
theorem e_C_lamp_0 (d n : Nat) (a1 : Int32) (a2 : Int32) (m : am_M) : r_C_lamp_0 d (n + 1) a1 a2 m = (am_bI (am_c d y_C_isLamp [.ref 0, .int a1] m) (fun r2 m1 => am_b (am_eq r2 (zn 0)) (some (some (.int zm), m1)) (am_b (am_eq a2 (zn 0)) (am_b (am_oi a1 5) none (some (some (.int (m1.1 74 a1.toNatClampNeg)), m1))) (am_b (am_eq a2 (zn 1)) (am_b (am_oi a1 5) none (some (some (.int (m1.1 36 a1.toNatClampNeg)), m1))) (am_b (am_eq a2 (zn 2)) (am_bI (am_c d y_Scene_turnOf [.ref 71, .int a1] m1) (fun r4 m3 => some (some (.int r4), m3))) (some (some (.int zm), m1))))))) := rfl
set_option maxRecDepth 100000 in
theorem n_C_lamp (d : Nat) (a1 : Int32) (a2 : Int32) (m : am_M) : am_c (d + 1) y_C_lamp [.ref 0, .int a1, .int a2] m = (am_bI (am_c d y_C_isLamp [.ref 0, .int a1] m) (fun r2 m1 => am_b (am_eq r2 (zn 0)) (some (some (.int zm), m1)) (am_b (am_eq a2 (zn 0)) (am_b (am_oi a1 5) none (some (some (.int (m1.1 74 a1.toNatClampNeg)), m1))) (am_b (am_eq a2 (zn 1)) (am_b (am_oi a1 5) none (some (some (.int (m1.1 36 a1.toNatClampNeg)), m1))) (am_b (am_eq a2 (zn 2)) (am_bI (am_c d y_Scene_turnOf [.ref 71, .int a1] m1) (fun r4 m3 => some (some (.int r4), m3))) (some (some (.int zm), m1))))))) := by
  have h : am_c (d + 1) y_C_lamp [.ref 0, .int a1, .int a2] m = r_C_lamp_0 d fu a1 a2 m := by
    rfl
  rw [h, fu_eq]; exact e_C_lamp_0 d 29999 a1 a2 m
noncomputable def r_C_own_0 (d n : Nat) (m : am_M) : am_R := am_run am_G true (am_c d) 1 pg_C_own [] n 0 [some (.ref 0)] m
set_option maxRecDepth 100000 in
theorem e_C_own_0 (d n : Nat) (m : am_M) : r_C_own_0 d (n + 1) m = (am_bI (am_c d y_Scene_countOwn [.ref 71] m) (fun r2 m1 => some (some (.int r2), m1))) := rfl
set_option maxRecDepth 100000 in
theorem n_C_own (d : Nat) (m : am_M) : am_c (d + 1) y_C_own [.ref 0] m = (am_bI (am_c d y_Scene_countOwn [.ref 71] m) (fun r2 m1 => some (some (.int r2), m1))) := by
  have h : am_c (d + 1) y_C_own [.ref 0] m = r_C_own_0 d fu m := by
    rfl
  rw [h, fu_eq]; exact e_C_own_0 d 29999 m
noncomputable def r_C_look_0 (d n : Nat) (a1 : Int32) (m : am_M) : am_R := am_run am_G true (am_c d) 1 pg_C_look [] n 0 [some (.ref 0), some (.int a1)] m
set_option maxRecDepth 100000 in
theorem e_C_look_0 (d n : Nat) (a1 : Int32) (m : am_M) : r_C_look_0 d (n + 1) a1 m = (am_bI (am_c d y_C_isThing [.ref 0, .int a1] m) (fun r2 m1 => am_b (am_eq r2 (zn 0)) (some (some (.int zm), m1)) (am_b (am_oi a1 5) none (some (some (.int (m1.1 32 a1.toNatClampNeg)), m1))))) := rfl
set_option maxRecDepth 100000 in
theorem n_C_look (d : Nat) (a1 : Int32) (m : am_M) : am_c (d + 1) y_C_look [.ref 0, .int a1] m = (am_bI (am_c d y_C_isThing [.ref 0, .int a1] m) (fun r2 m1 => am_b (am_eq r2 (zn 0)) (some (some (.int zm), m1)) (am_b (am_oi a1 5) none (some (some (.int (m1.1 32 a1.toNatClampNeg)), m1))))) := by
  have h : am_c (d + 1) y_C_look [.ref 0, .int a1] m = r_C_look_0 d fu a1 m := by
    rfl
  rw [h, fu_eq]; exact e_C_look_0 d 29999 a1 m
noncomputable def r_C_alike_0 (d n : Nat) (a1 : Int32) (m : am_M) : am_R := am_run am_G true (am_c d) 1 pg_C_alike [] n 0 [some (.ref 0), some (.int a1)] m
set_option maxRecDepth 100000 in
theorem e_C_alike_0 (d n : Nat) (a1 : Int32) (m : am_M) : r_C_alike_0 d (n + 1) a1 m = (am_bI (am_c d y_C_isThing [.ref 0, .int a1] m) (fun r2 m1 => am_b (am_eq r2 (zn 0)) (some (some (.int zm), m1)) (am_b (am_oi a1 5) none (am_bI (am_c d y_Told_shadowsLooking [.ref 27, .int (m1.1 32 a1.toNatClampNeg)] m1) (fun r4 m3 => some (some (.int r4), m3)))))) := rfl
set_option maxRecDepth 100000 in
theorem n_C_alike (d : Nat) (a1 : Int32) (m : am_M) : am_c (d + 1) y_C_alike [.ref 0, .int a1] m = (am_bI (am_c d y_C_isThing [.ref 0, .int a1] m) (fun r2 m1 => am_b (am_eq r2 (zn 0)) (some (some (.int zm), m1)) (am_b (am_oi a1 5) none (am_bI (am_c d y_Told_shadowsLooking [.ref 27, .int (m1.1 32 a1.toNatClampNeg)] m1) (fun r4 m3 => some (some (.int r4), m3)))))) := by
  have h : am_c (d + 1) y_C_alike [.ref 0, .int a1] m = r_C_alike_0 d fu a1 m := by
    rfl
  rw [h, fu_eq]; exact e_C_alike_0 d 29999 a1 m
noncomputable def r_C_sorts_0 (d n : Nat) (m : am_M) : am_R := am_run am_G true (am_c d) 1 pg_C_sorts [4] n 0 [some (.ref 0), none, none, none] m
noncomputable def r_C_sorts_4 (d n : Nat) (x1 : Int32) (x2 : Int32) (x3 : Option Value) (m : am_M) : am_R := am_run am_G true (am_c d) 1 pg_C_sorts [4] n 4 [some (.ref 0), some (.int x1), some (.int x2), x3] m
set_option maxRecDepth 100000 in
theorem e_C_sorts_0 (d n : Nat) (m : am_M) : r_C_sorts_0 d (n + 1) m = (r_C_sorts_4 d n (zn 0) (zn 0) none m) := rfl
set_option maxRecDepth 100000 in
theorem e_C_sorts_4 (d n : Nat) (x1 : Int32) (x2 : Int32) (x3 : Option Value) (m : am_M) : r_C_sorts_4 d (n + 1) x1 x2 x3 m = (am_b (am_le (m.1 27 0) x2) (some (some (.int x1), m)) (am_b (am_oi x2 5) none (am_bI (am_c d y_Told_shadowsLooking [.ref 27, .int (m.1 32 x2.toNatClampNeg)] m) (fun r2 m1 => am_b (am_eq (r2 &&& (((zn 1) <<< (x2 &&& 31)) - (zn 1))) (zn 0)) (r_C_sorts_4 d n (x1 + (zn 1)) (x2 + (zn 1)) (some (.int (((zn 1) <<< (x2 &&& 31)) - (zn 1)))) m1) (r_C_sorts_4 d n x1 (x2 + (zn 1)) (some (.int (((zn 1) <<< (x2 &&& 31)) - (zn 1)))) m1))))) := rfl
set_option maxRecDepth 100000 in
theorem n_C_sorts (d : Nat) (m : am_M) : am_c (d + 1) y_C_sorts [.ref 0] m = (r_C_sorts_4 d 29999 (zn 0) (zn 0) none m) := by
  have h : am_c (d + 1) y_C_sorts [.ref 0] m = r_C_sorts_0 d fu m := by
    rfl
  rw [h, fu_eq]; exact e_C_sorts_0 d 29999 m
noncomputable def r_C_strike_0 (d n : Nat) (a1 : Int32) (m : am_M) : am_R := am_run am_G true (am_c d) 1 pg_C_strike [] n 0 [some (.ref 0), some (.int a1)] m
set_option maxRecDepth 100000 in
theorem e_C_strike_0 (d n : Nat) (a1 : Int32) (m : am_M) : r_C_strike_0 d (n + 1) a1 m = (am_b (am_lt a1 (zn 0)) (some (some (.int zm), m)) (am_b (am_lt a1 (m.1 97 4)) (am_bI (am_c d y_Memory_add [.ref 97, .int (zn 0), .int zm, .int a1] m) (fun r2 m1 => some (some (.int r2), m1))) (some (some (.int zm), m)))) := rfl
set_option maxRecDepth 100000 in
theorem n_C_strike (d : Nat) (a1 : Int32) (m : am_M) : am_c (d + 1) y_C_strike [.ref 0, .int a1] m = (am_b (am_lt a1 (zn 0)) (some (some (.int zm), m)) (am_b (am_lt a1 (m.1 97 4)) (am_bI (am_c d y_Memory_add [.ref 97, .int (zn 0), .int zm, .int a1] m) (fun r2 m1 => some (some (.int r2), m1))) (some (some (.int zm), m)))) := by
  have h : am_c (d + 1) y_C_strike [.ref 0, .int a1] m = r_C_strike_0 d fu a1 m := by
    rfl
  rw [h, fu_eq]; exact e_C_strike_0 d 29999 a1 m
noncomputable def r_C_canBeTried_0 (d n : Nat) (a1 : Int32) (a2 : Int32) (m : am_M) : am_R := am_run am_G true (am_c d) 2 pg_C_canBeTried [] n 0 [some (.ref 0), some (.int a1), some (.int a2)] m
set_option maxRecDepth 100000 in
theorem e_C_canBeTried_0 (d n : Nat) (a1 : Int32) (a2 : Int32) (m : am_M) : r_C_canBeTried_0 d (n + 1) a1 a2 m = (am_b (am_eq a1 (zn 3)) (am_bI (am_c d y_C_isThing [.ref 0, .int a2] m) (fun r4 m3 => am_b (am_eq r4 (zn 0)) (some (some (.int r4), m3)) (am_b (am_eq r4 (zn 1)) (some (some (.int r4), m3)) none))) (am_b (am_eq a1 (zn 4)) (am_bI (am_c d y_C_isLamp [.ref 0, .int a2] m) (fun r2 m1 => am_b (am_eq r2 (zn 0)) (some (some (.int r2), m1)) (am_b (am_eq r2 (zn 1)) (some (some (.int r2), m1)) none))) (am_b (am_lt a1 (zn 0)) (some (some (.int (zn 0)), m)) (am_b (am_lt (zn 2) a1) (some (some (.int (zn 0)), m)) (am_b (am_eq a2 (zn 0)) (some (some (.int (zn 1)), m)) (some (some (.int (zn 0)), m))))))) := rfl
set_option maxRecDepth 100000 in
theorem n_C_canBeTried (d : Nat) (a1 : Int32) (a2 : Int32) (m : am_M) : am_c (d + 1) y_C_canBeTried [.ref 0, .int a1, .int a2] m = (am_b (am_eq a1 (zn 3)) (am_bI (am_c d y_C_isThing [.ref 0, .int a2] m) (fun r4 m3 => am_b (am_eq r4 (zn 0)) (some (some (.int r4), m3)) (am_b (am_eq r4 (zn 1)) (some (some (.int r4), m3)) none))) (am_b (am_eq a1 (zn 4)) (am_bI (am_c d y_C_isLamp [.ref 0, .int a2] m) (fun r2 m1 => am_b (am_eq r2 (zn 0)) (some (some (.int r2), m1)) (am_b (am_eq r2 (zn 1)) (some (some (.int r2), m1)) none))) (am_b (am_lt a1 (zn 0)) (some (some (.int (zn 0)), m)) (am_b (am_lt (zn 2) a1) (some (some (.int (zn 0)), m)) (am_b (am_eq a2 (zn 0)) (some (some (.int (zn 1)), m)) (some (some (.int (zn 0)), m))))))) := by
  have h : am_c (d + 1) y_C_canBeTried [.ref 0, .int a1, .int a2] m = r_C_canBeTried_0 d fu a1 a2 m := by
    rfl
  rw [h, fu_eq]; exact e_C_canBeTried_0 d 29999 a1 a2 m
