theorem am_Mk_0 : ∀ (j : Nat) (q : am_Y), am_at (am_MT.drop 0) j = some q → j < 47 → am_Mk (0 + j) q := by
  intro j q hq hj
  exact match j, hq with
  | 0, hq => by cases hq; exact ⟨fun r hr => am_ib_ok (List.all_eq_true.mp ik_Day_draw r hr), rfl, rfl⟩
  | 1, hq => by cases hq; exact ⟨fun r hr => am_ib_ok (List.all_eq_true.mp ik_Day_nameAll r hr), rfl, rfl⟩
  | 2, hq => by cases hq; exact ⟨fun r hr => am_ib_ok (List.all_eq_true.mp ik_Deeds_clear r hr), rfl, rfl⟩
  | 3, hq => by cases hq; exact ⟨fun r hr => am_ib_ok (List.all_eq_true.mp ik_Finder_lampFound r hr), rfl, rfl⟩
  | 4, hq => by cases hq; exact ⟨fun r hr => am_ib_ok (List.all_eq_true.mp ik_Finder_exchangeInOrder r hr), rfl, rfl⟩
  | 5, hq => by cases hq; exact ⟨fun r hr => am_ib_ok (List.all_eq_true.mp ik_Finder_isRest r hr), rfl, rfl⟩
  | 6, hq => by cases hq; exact ⟨fun r hr => am_ib_ok (List.all_eq_true.mp ik_Finder_restAt r hr), rfl, rfl⟩
  | 7, hq => by cases hq; exact ⟨fun r hr => am_ib_ok (List.all_eq_true.mp ik_Laws_clear r hr), rfl, rfl⟩
  | 8, hq => by cases hq; exact ⟨fun r hr => am_ib_ok (List.all_eq_true.mp ik_Laws_put r hr), rfl, rfl⟩
  | 9, hq => by cases hq; exact ⟨fun r hr => am_ib_ok (List.all_eq_true.mp ik_Laws_isTold r hr), rfl, rfl⟩
  | 10, hq => by cases hq; exact ⟨fun r hr => am_ib_ok (List.all_eq_true.mp ik_Memory_clear r hr), rfl, rfl⟩
  | 11, hq => by cases hq; exact ⟨fun r hr => am_ib_ok (List.all_eq_true.mp ik_Memory_add r hr), rfl, rfl⟩
  | 12, hq => by cases hq; exact ⟨fun r hr => am_ib_ok (List.all_eq_true.mp ik_Memory_countBy r hr), rfl, rfl⟩
  | 13, hq => by cases hq; exact ⟨fun r hr => am_ib_ok (List.all_eq_true.mp ik_Memory_isKnown r hr), rfl, rfl⟩
  | 14, hq => by cases hq; exact ⟨fun r hr => am_ib_ok (List.all_eq_true.mp ik_Reader_fail r hr), rfl, rfl⟩
  | 15, hq => by cases hq; exact ⟨fun r hr => am_ib_ok (List.all_eq_true.mp ik_Reader_hold r hr), rfl, rfl⟩
  | 16, hq => by cases hq; exact ⟨fun r hr => am_ib_ok (List.all_eq_true.mp ik_Reader_strengthOf r hr), rfl, rfl⟩
  | 17, hq => by cases hq; exact ⟨fun r hr => am_ib_ok (List.all_eq_true.mp ik_Scanner_isLetter r hr), rfl, rfl⟩
  | 18, hq => by cases hq; exact ⟨fun r hr => am_ib_ok (List.all_eq_true.mp ik_Scanner_isDigit r hr), rfl, rfl⟩
  | 19, hq => by cases hq; exact ⟨fun r hr => am_ib_ok (List.all_eq_true.mp ik_Scanner_isSign r hr), rfl, rfl⟩
  | 20, hq => by cases hq; exact ⟨fun r hr => am_ib_ok (List.all_eq_true.mp ik_Scene_countOwn r hr), rfl, rfl⟩
  | 21, hq => by cases hq; exact ⟨fun r hr => am_ib_ok (List.all_eq_true.mp ik_Scene_exchange r hr), rfl, rfl⟩
  | 22, hq => by cases hq; exact ⟨fun r hr => am_ib_ok (List.all_eq_true.mp ik_Scene_bringToWall r hr), rfl, rfl⟩
  | 23, hq => by cases hq; exact ⟨fun r hr => am_ib_ok (List.all_eq_true.mp ik_Scene_takeFromWall r hr), rfl, rfl⟩
  | 24, hq => by cases hq; exact ⟨fun r hr => am_ib_ok (List.all_eq_true.mp ik_Scene_turnOf r hr), rfl, rfl⟩
  | 25, hq => by cases hq; exact ⟨fun r hr => am_ib_ok (List.all_eq_true.mp ik_Scene_addMeeting r hr), rfl, rfl⟩
  | 26, hq => by cases hq; exact ⟨fun r hr => am_ib_ok (List.all_eq_true.mp ik_Scene_removeMeeting r hr), rfl, rfl⟩
  | 27, hq => by cases hq; exact ⟨fun r hr => am_ib_ok (List.all_eq_true.mp ik_Swapper_stateOf r hr), rfl, rfl⟩
  | 28, hq => by cases hq; exact ⟨fun r hr => am_ib_ok (List.all_eq_true.mp ik_Swapper_goalOf r hr), rfl, rfl⟩
  | 29, hq => by cases hq; exact ⟨fun r hr => am_ib_ok (List.all_eq_true.mp ik_Swapper_swapped r hr), rfl, rfl⟩
  | 30, hq => by cases hq; exact ⟨fun r hr => am_ib_ok (List.all_eq_true.mp ik_Swapper_reach r hr), rfl, rfl⟩
  | 31, hq => by cases hq; exact ⟨fun r hr => am_ib_ok (List.all_eq_true.mp ik_Swapper_traceBack r hr), rfl, rfl⟩
  | 32, hq => by cases hq; exact ⟨fun r hr => am_ib_ok (List.all_eq_true.mp ik_Told_thingNamed r hr), rfl, rfl⟩
  | 33, hq => by cases hq; exact ⟨fun r hr => am_ib_ok (List.all_eq_true.mp ik_Told_sizeOf r hr), rfl, rfl⟩
  | 34, hq => by cases hq; exact ⟨fun r hr => am_ib_ok (List.all_eq_true.mp ik_Told_shadowsLooking r hr), rfl, rfl⟩
  | 35, hq => by cases hq; exact ⟨fun r hr => am_ib_ok (List.all_eq_true.mp ik_Told_moveUpAndLeft r hr), rfl, rfl⟩
  | 36, hq => by cases hq; exact ⟨fun r hr => am_ib_ok (List.all_eq_true.mp ik_Ways_reachAll r hr), rfl, rfl⟩
  | 37, hq => by cases hq; exact ⟨fun r hr => am_ib_ok (List.all_eq_true.mp ik_Ways_cheerAll r hr), rfl, rfl⟩
  | 38, hq => by cases hq; exact ⟨fun r hr => am_ib_ok (List.all_eq_true.mp ik_C_putOnTape r hr), rfl, rfl⟩
  | 39, hq => by cases hq; exact ⟨fun r hr => am_ib_ok (List.all_eq_true.mp ik_C_fault r hr), rfl, rfl⟩
  | 40, hq => by cases hq; exact ⟨fun r hr => am_ib_ok (List.all_eq_true.mp ik_C_wall r hr), rfl, rfl⟩
  | 41, hq => by cases hq; exact ⟨fun r hr => am_ib_ok (List.all_eq_true.mp ik_C_known r hr), rfl, rfl⟩
  | 42, hq => by cases hq; exact ⟨fun r hr => am_ib_ok (List.all_eq_true.mp ik_C_weightOf r hr), rfl, rfl⟩
  | 43, hq => by cases hq; exact ⟨fun r hr => am_ib_ok (List.all_eq_true.mp ik_C_greatestDivisor r hr), rfl, rfl⟩
  | 44, hq => by cases hq; exact ⟨fun r hr => am_ib_ok (List.all_eq_true.mp ik_C_isThing r hr), rfl, rfl⟩
  | 45, hq => by cases hq; exact ⟨fun r hr => am_ib_ok (List.all_eq_true.mp ik_C_isLamp r hr), rfl, rfl⟩
  | 46, hq => by cases hq; exact ⟨fun r hr => am_ib_ok (List.all_eq_true.mp ik_C_findPair r hr), rfl, rfl⟩
  | n + 47, hq => absurd hj (by omega)
theorem am_Mk_47 : ∀ (j : Nat) (q : am_Y), am_at (am_MT.drop 47) j = some q → j < 47 → am_Mk (47 + j) q := by
  intro j q hq hj
  exact match j, hq with
  | 0, hq => by cases hq; exact ⟨fun r hr => am_ib_ok (List.all_eq_true.mp ik_C_isPlace r hr), rfl, rfl⟩
  | 1, hq => by cases hq; exact ⟨fun r hr => am_ib_ok (List.all_eq_true.mp ik_C_isShape r hr), rfl, rfl⟩
  | 2, hq => by cases hq; exact ⟨fun r hr => am_ib_ok (List.all_eq_true.mp ik_M_thrown r hr), rfl, rfl⟩
  | 3, hq => by cases hq; exact ⟨fun r hr => am_ib_ok (List.all_eq_true.mp ik_M_feed r hr), rfl, rfl⟩
  | 4, hq => by cases hq; exact ⟨fun r hr => am_ib_ok (List.all_eq_true.mp ik_M_isIn r hr), rfl, rfl⟩
  | 5, hq => by cases hq; exact ⟨fun r hr => am_ib_ok (List.all_eq_true.mp ik_M_isOf r hr), rfl, rfl⟩
  | 6, hq => by cases hq; exact ⟨fun r hr => am_ib_ok (List.all_eq_true.mp ik_M_wrong r hr), rfl, rfl⟩
  | 7, hq => by cases hq; exact ⟨fun r hr => am_ib_ok (List.all_eq_true.mp ik_M_wordAt r hr), rfl, rfl⟩
  | 8, hq => by cases hq; exact ⟨fun r hr => am_ib_ok (List.all_eq_true.mp ik_M_isSmall r hr), rfl, rfl⟩
  | 9, hq => by cases hq; exact ⟨fun r hr => am_ib_ok (List.all_eq_true.mp ik_M_isDigit r hr), rfl, rfl⟩
  | 10, hq => by cases hq; exact ⟨fun r hr => am_ib_ok (List.all_eq_true.mp ik_M_signToken r hr), rfl, rfl⟩
  | 11, hq => by cases hq; exact ⟨fun r hr => am_ib_ok (List.all_eq_true.mp ik_M_packed r hr), rfl, rfl⟩
  | 12, hq => by cases hq; exact ⟨fun r hr => am_ib_ok (List.all_eq_true.mp ik_M_isKey r hr), rfl, rfl⟩
  | 13, hq => by cases hq; exact ⟨fun r hr => am_ib_ok (List.all_eq_true.mp ik_M_isSign r hr), rfl, rfl⟩
  | 14, hq => by cases hq; exact ⟨fun r hr => am_ib_ok (List.all_eq_true.mp ik_M_plain r hr), rfl, rfl⟩
  | 15, hq => by cases hq; exact ⟨fun r hr => am_ib_ok (List.all_eq_true.mp ik_M_copies r hr), rfl, rfl⟩
  | 16, hq => by cases hq; exact ⟨fun r hr => am_ib_ok (List.all_eq_true.mp ik_M_find r hr), rfl, rfl⟩
  | 17, hq => by cases hq; exact ⟨fun r hr => am_ib_ok (List.all_eq_true.mp ik_M_fault r hr), rfl, rfl⟩
  | 18, hq => by cases hq; exact ⟨fun r hr => am_ib_ok (List.all_eq_true.mp ik_M_rank r hr), rfl, rfl⟩
  | 19, hq => by cases hq; exact ⟨fun r hr => am_ib_ok (List.all_eq_true.mp ik_M_grown r hr), rfl, rfl⟩
  | 20, hq => by cases hq; exact ⟨fun r hr => am_ib_ok (List.all_eq_true.mp ik_M_dropHeld r hr), rfl, rfl⟩
  | 21, hq => by cases hq; exact ⟨fun r hr => am_ib_ok (List.all_eq_true.mp ik_M_waitsFor r hr), rfl, rfl⟩
  | 22, hq => by cases hq; exact ⟨fun r hr => am_ib_ok (List.all_eq_true.mp ik_M_nameMet r hr), rfl, rfl⟩
  | 23, hq => by cases hq; exact ⟨fun r hr => am_ib_ok (List.all_eq_true.mp ik_M_bounded r hr), rfl, rfl⟩
  | 24, hq => by cases hq; exact ⟨fun r hr => am_ib_ok (List.all_eq_true.mp ik_M_compares r hr), rfl, rfl⟩
  | 25, hq => by cases hq; exact ⟨fun r hr => am_ib_ok (List.all_eq_true.mp ik_M_times r hr), rfl, rfl⟩
  | 26, hq => by cases hq; exact ⟨fun r hr => am_ib_ok (List.all_eq_true.mp ik_M_plainTried r hr), rfl, rfl⟩
  | 27, hq => by cases hq; exact ⟨fun r hr => am_ib_ok (List.all_eq_true.mp ik_M_isThing r hr), rfl, rfl⟩
  | 28, hq => by cases hq; exact ⟨fun r hr => am_ib_ok (List.all_eq_true.mp ik_M_isLamp r hr), rfl, rfl⟩
  | 29, hq => by cases hq; exact ⟨fun r hr => am_ib_ok (List.all_eq_true.mp ik_M_apart r hr), rfl, rfl⟩
  | 30, hq => by cases hq; exact ⟨fun r hr => am_ib_ok (List.all_eq_true.mp ik_M_howOf r hr), rfl, rfl⟩
  | 31, hq => by cases hq; exact ⟨fun r hr => am_ib_ok (List.all_eq_true.mp ik_M_placeOf r hr), rfl, rfl⟩
  | 32, hq => by cases hq; exact ⟨fun r hr => am_ib_ok (List.all_eq_true.mp ik_M_sizeHad r hr), rfl, rfl⟩
  | 33, hq => by cases hq; exact ⟨fun r hr => am_ib_ok (List.all_eq_true.mp ik_M_taken r hr), rfl, rfl⟩
  | 34, hq => by cases hq; exact ⟨fun r hr => am_ib_ok (List.all_eq_true.mp ik_M_noon r hr), rfl, rfl⟩
  | 35, hq => by cases hq; exact ⟨fun r hr => am_ib_ok (List.all_eq_true.mp ik_M_number1 r hr), rfl, rfl⟩
  | 36, hq => by cases hq; exact ⟨fun r hr => am_ib_ok (List.all_eq_true.mp ik_M_ownIn r hr), rfl, rfl⟩
  | 37, hq => by cases hq; exact ⟨fun r hr => am_ib_ok (List.all_eq_true.mp ik_M_fails r hr), rfl, rfl⟩
  | 38, hq => by cases hq; exact ⟨fun r hr => am_ib_ok (List.all_eq_true.mp ik_M_wall r hr), rfl, rfl⟩
  | 39, hq => by cases hq; exact ⟨fun r hr => am_ib_ok (List.all_eq_true.mp ik_M_meetingOf r hr), rfl, rfl⟩
  | 40, hq => by cases hq; exact ⟨fun r hr => am_ib_ok (List.all_eq_true.mp ik_M_powerOf r hr), rfl, rfl⟩
  | 41, hq => by cases hq; exact ⟨fun r hr => am_ib_ok (List.all_eq_true.mp ik_M_rowNow r hr), rfl, rfl⟩
  | 42, hq => by cases hq; exact ⟨fun r hr => am_ib_ok (List.all_eq_true.mp ik_M_meetsRow r hr), rfl, rfl⟩
  | 43, hq => by cases hq; exact ⟨fun r hr => am_ib_ok (List.all_eq_true.mp ik_M_up r hr), rfl, rfl⟩
  | 44, hq => by cases hq; exact ⟨fun r hr => am_ib_ok (List.all_eq_true.mp ik_M_mirrored r hr), rfl, rfl⟩
  | 45, hq => by cases hq; exact ⟨fun r hr => am_ib_ok (List.all_eq_true.mp ik_M_noted r hr), rfl, rfl⟩
  | 46, hq => by cases hq; exact ⟨fun r hr => am_ib_ok (List.all_eq_true.mp ik_M_knownBy r hr), rfl, rfl⟩
  | n + 47, hq => absurd hj (by omega)
theorem am_Mk_94 : ∀ (j : Nat) (q : am_Y), am_at (am_MT.drop 94) j = some q → j < 47 → am_Mk (94 + j) q := by
  intro j q hq hj
  exact match j, hq with
  | 0, hq => by cases hq; exact ⟨fun r hr => am_ib_ok (List.all_eq_true.mp ik_M_keepsAll r hr), rfl, rfl⟩
  | 1, hq => by cases hq; exact ⟨fun r hr => am_ib_ok (List.all_eq_true.mp ik_M_takesAll r hr), rfl, rfl⟩
  | 2, hq => by cases hq; exact ⟨fun r hr => am_ib_ok (List.all_eq_true.mp ik_M_common r hr), rfl, rfl⟩
  | 3, hq => by cases hq; exact ⟨fun r hr => am_ib_ok (List.all_eq_true.mp ik_M_put r hr), rfl, rfl⟩
  | 4, hq => by cases hq; exact ⟨fun r hr => am_ib_ok (List.all_eq_true.mp ik_M_take r hr), rfl, rfl⟩
  | 5, hq => by cases hq; exact ⟨fun r hr => am_ib_ok (List.all_eq_true.mp ik_Day_choose r hr), rfl, rfl⟩
  | 6, hq => by cases hq; exact ⟨fun r hr => am_ib_ok (List.all_eq_true.mp ik_Day_greatest r hr), rfl, rfl⟩
  | 7, hq => by cases hq; exact ⟨fun r hr => am_ib_ok (List.all_eq_true.mp ik_Day_farness r hr), rfl, rfl⟩
  | 8, hq => by cases hq; exact ⟨fun r hr => am_ib_ok (List.all_eq_true.mp ik_Deeds_forgetOldest r hr), rfl, rfl⟩
  | 9, hq => by cases hq; exact ⟨fun r hr => am_ib_ok (List.all_eq_true.mp ik_Finder_goToNextOrder r hr), rfl, rfl⟩
  | 10, hq => by cases hq; exact ⟨fun r hr => am_ib_ok (List.all_eq_true.mp ik_Laws_copyFrom r hr), rfl, rfl⟩
  | 11, hq => by cases hq; exact ⟨fun r hr => am_ib_ok (List.all_eq_true.mp ik_Laws_join r hr), rfl, rfl⟩
  | 12, hq => by cases hq; exact ⟨fun r hr => am_ib_ok (List.all_eq_true.mp ik_Memory_judge r hr), rfl, rfl⟩
  | 13, hq => by cases hq; exact ⟨fun r hr => am_ib_ok (List.all_eq_true.mp ik_Memory_lastDay r hr), rfl, rfl⟩
  | 14, hq => by cases hq; exact ⟨fun r hr => am_ib_ok (List.all_eq_true.mp ik_Memory_agrees r hr), rfl, rfl⟩
  | 15, hq => by cases hq; exact ⟨fun r hr => am_ib_ok (List.all_eq_true.mp ik_Reader_findThing r hr), rfl, rfl⟩
  | 16, hq => by cases hq; exact ⟨fun r hr => am_ib_ok (List.all_eq_true.mp ik_Reader_countKnot r hr), rfl, rfl⟩
  | 17, hq => by cases hq; exact ⟨fun r hr => am_ib_ok (List.all_eq_true.mp ik_Reader_putWaiting r hr), rfl, rfl⟩
  | 18, hq => by cases hq; exact ⟨fun r hr => am_ib_ok (List.all_eq_true.mp ik_Scanner_readWord r hr), rfl, rfl⟩
  | 19, hq => by cases hq; exact ⟨fun r hr => am_ib_ok (List.all_eq_true.mp ik_Scanner_readNumber r hr), rfl, rfl⟩
  | 20, hq => by cases hq; exact ⟨fun r hr => am_ib_ok (List.all_eq_true.mp ik_Scanner_readSign r hr), rfl, rfl⟩
  | 21, hq => by cases hq; exact ⟨fun r hr => am_ib_ok (List.all_eq_true.mp ik_Scene_begin r hr), rfl, rfl⟩
  | 22, hq => by cases hq; exact ⟨fun r hr => am_ib_ok (List.all_eq_true.mp ik_Scene_copyFrom r hr), rfl, rfl⟩
  | 23, hq => by cases hq; exact ⟨fun r hr => am_ib_ok (List.all_eq_true.mp ik_Scene_exchangeTurns r hr), rfl, rfl⟩
  | 24, hq => by cases hq; exact ⟨fun r hr => am_ib_ok (List.all_eq_true.mp ik_Scene_takeDown r hr), rfl, rfl⟩
  | 25, hq => by cases hq; exact ⟨fun r hr => am_ib_ok (List.all_eq_true.mp ik_Scene_findMeeting r hr), rfl, rfl⟩
  | 26, hq => by cases hq; exact ⟨fun r hr => am_ib_ok (List.all_eq_true.mp ik_Scene_swapIfMoreOwn r hr), rfl, rfl⟩
  | 27, hq => by cases hq; exact ⟨fun r hr => am_ib_ok (List.all_eq_true.mp ik_Swapper_find r hr), rfl, rfl⟩
  | 28, hq => by cases hq; exact ⟨fun r hr => am_ib_ok (List.all_eq_true.mp ik_Swapper_pairOf r hr), rfl, rfl⟩
  | 29, hq => by cases hq; exact ⟨fun r hr => am_ib_ok (List.all_eq_true.mp ik_Told_clear r hr), rfl, rfl⟩
  | 30, hq => by cases hq; exact ⟨fun r hr => am_ib_ok (List.all_eq_true.mp ik_Told_findMeeting r hr), rfl, rfl⟩
  | 31, hq => by cases hq; exact ⟨fun r hr => am_ib_ok (List.all_eq_true.mp ik_Told_lookOf r hr), rfl, rfl⟩
  | 32, hq => by cases hq; exact ⟨fun r hr => am_ib_ok (List.all_eq_true.mp ik_Ways_follow r hr), rfl, rfl⟩
  | 33, hq => by cases hq; exact ⟨fun r hr => am_ib_ok (List.all_eq_true.mp ik_C_feed r hr), rfl, rfl⟩
  | 34, hq => by cases hq; exact ⟨fun r hr => am_ib_ok (List.all_eq_true.mp ik_C_named r hr), rfl, rfl⟩
  | 35, hq => by cases hq; exact ⟨fun r hr => am_ib_ok (List.all_eq_true.mp ik_C_lamp r hr), rfl, rfl⟩
  | 36, hq => by cases hq; exact ⟨fun r hr => am_ib_ok (List.all_eq_true.mp ik_C_own r hr), rfl, rfl⟩
  | 37, hq => by cases hq; exact ⟨fun r hr => am_ib_ok (List.all_eq_true.mp ik_C_look r hr), rfl, rfl⟩
  | 38, hq => by cases hq; exact ⟨fun r hr => am_ib_ok (List.all_eq_true.mp ik_C_alike r hr), rfl, rfl⟩
  | 39, hq => by cases hq; exact ⟨fun r hr => am_ib_ok (List.all_eq_true.mp ik_C_sorts r hr), rfl, rfl⟩
  | 40, hq => by cases hq; exact ⟨fun r hr => am_ib_ok (List.all_eq_true.mp ik_C_strike r hr), rfl, rfl⟩
  | 41, hq => by cases hq; exact ⟨fun r hr => am_ib_ok (List.all_eq_true.mp ik_C_canBeTried r hr), rfl, rfl⟩
  | 42, hq => by cases hq; exact ⟨fun r hr => am_ib_ok (List.all_eq_true.mp ik_C_count r hr), rfl, rfl⟩
  | 43, hq => by cases hq; exact ⟨fun r hr => am_ib_ok (List.all_eq_true.mp ik_C_areTwoThings r hr), rfl, rfl⟩
  | 44, hq => by cases hq; exact ⟨fun r hr => am_ib_ok (List.all_eq_true.mp ik_M_token r hr), rfl, rfl⟩
  | 45, hq => by cases hq; exact ⟨fun r hr => am_ib_ok (List.all_eq_true.mp ik_M_named r hr), rfl, rfl⟩
  | 46, hq => by cases hq; exact ⟨fun r hr => am_ib_ok (List.all_eq_true.mp ik_M_bind r hr), rfl, rfl⟩
  | n + 47, hq => absurd hj (by omega)
theorem am_Mk_141 : ∀ (j : Nat) (q : am_Y), am_at (am_MT.drop 141) j = some q → j < 47 → am_Mk (141 + j) q := by
  intro j q hq hj
  exact match j, hq with
  | 0, hq => by cases hq; exact ⟨fun r hr => am_ib_ok (List.all_eq_true.mp ik_M_isCounted r hr), rfl, rfl⟩
  | 1, hq => by cases hq; exact ⟨fun r hr => am_ib_ok (List.all_eq_true.mp ik_M_valueOf r hr), rfl, rfl⟩
  | 2, hq => by cases hq; exact ⟨fun r hr => am_ib_ok (List.all_eq_true.mp ik_M_begin r hr), rfl, rfl⟩
  | 3, hq => by cases hq; exact ⟨fun r hr => am_ib_ok (List.all_eq_true.mp ik_M_layTried r hr), rfl, rfl⟩
  | 4, hq => by cases hq; exact ⟨fun r hr => am_ib_ok (List.all_eq_true.mp ik_M_layNames r hr), rfl, rfl⟩
  | 5, hq => by cases hq; exact ⟨fun r hr => am_ib_ok (List.all_eq_true.mp ik_M_givenTo r hr), rfl, rfl⟩
  | 6, hq => by cases hq; exact ⟨fun r hr => am_ib_ok (List.all_eq_true.mp ik_M_thieves r hr), rfl, rfl⟩
  | 7, hq => by cases hq; exact ⟨fun r hr => am_ib_ok (List.all_eq_true.mp ik_M_isFog r hr), rfl, rfl⟩
  | 8, hq => by cases hq; exact ⟨fun r hr => am_ib_ok (List.all_eq_true.mp ik_M_thing r hr), rfl, rfl⟩
  | 9, hq => by cases hq; exact ⟨fun r hr => am_ib_ok (List.all_eq_true.mp ik_M_lamp r hr), rfl, rfl⟩
  | 10, hq => by cases hq; exact ⟨fun r hr => am_ib_ok (List.all_eq_true.mp ik_M_meets r hr), rfl, rfl⟩
  | 11, hq => by cases hq; exact ⟨fun r hr => am_ib_ok (List.all_eq_true.mp ik_M_own r hr), rfl, rfl⟩
  | 12, hq => by cases hq; exact ⟨fun r hr => am_ib_ok (List.all_eq_true.mp ik_M_isOrder r hr), rfl, rfl⟩
  | 13, hq => by cases hq; exact ⟨fun r hr => am_ib_ok (List.all_eq_true.mp ik_M_hadIn r hr), rfl, rfl⟩
  | 14, hq => by cases hq; exact ⟨fun r hr => am_ib_ok (List.all_eq_true.mp ik_M_lookOf r hr), rfl, rfl⟩
  | 15, hq => by cases hq; exact ⟨fun r hr => am_ib_ok (List.all_eq_true.mp ik_M_see r hr), rfl, rfl⟩
  | 16, hq => by cases hq; exact ⟨fun r hr => am_ib_ok (List.all_eq_true.mp ik_M_strike r hr), rfl, rfl⟩
  | 17, hq => by cases hq; exact ⟨fun r hr => am_ib_ok (List.all_eq_true.mp ik_M_known r hr), rfl, rfl⟩
  | 18, hq => by cases hq; exact ⟨fun r hr => am_ib_ok (List.all_eq_true.mp ik_M_layTextTried r hr), rfl, rfl⟩
  | 19, hq => by cases hq; exact ⟨fun r hr => am_ib_ok (List.all_eq_true.mp ik_M_remember r hr), rfl, rfl⟩
  | 20, hq => by cases hq; exact ⟨fun r hr => am_ib_ok (List.all_eq_true.mp ik_M_undo r hr), rfl, rfl⟩
  | 21, hq => by cases hq; exact ⟨fun r hr => am_ib_ok (List.all_eq_true.mp ik_M_keep r hr), rfl, rfl⟩
  | 22, hq => by cases hq; exact ⟨fun r hr => am_ib_ok (List.all_eq_true.mp ik_M_back r hr), rfl, rfl⟩
  | 23, hq => by cases hq; exact ⟨fun r hr => am_ib_ok (List.all_eq_true.mp ik_M_count r hr), rfl, rfl⟩
  | 24, hq => by cases hq; exact ⟨fun r hr => am_ib_ok (List.all_eq_true.mp ik_Day_nextAt r hr), rfl, rfl⟩
  | 25, hq => by cases hq; exact ⟨fun r hr => am_ib_ok (List.all_eq_true.mp ik_Day_meetAtNoon r hr), rfl, rfl⟩
  | 26, hq => by cases hq; exact ⟨fun r hr => am_ib_ok (List.all_eq_true.mp ik_Deeds_add r hr), rfl, rfl⟩
  | 27, hq => by cases hq; exact ⟨fun r hr => am_ib_ok (List.all_eq_true.mp ik_Deeds_reverse r hr), rfl, rfl⟩
  | 28, hq => by cases hq; exact ⟨fun r hr => am_ib_ok (List.all_eq_true.mp ik_Laws_work r hr), rfl, rfl⟩
  | 29, hq => by cases hq; exact ⟨fun r hr => am_ib_ok (List.all_eq_true.mp ik_Reader_takeOperand r hr), rfl, rfl⟩
  | 30, hq => by cases hq; exact ⟨fun r hr => am_ib_ok (List.all_eq_true.mp ik_Reader_takeSign r hr), rfl, rfl⟩
  | 31, hq => by cases hq; exact ⟨fun r hr => am_ib_ok (List.all_eq_true.mp ik_Scanner_advance r hr), rfl, rfl⟩
  | 32, hq => by cases hq; exact ⟨fun r hr => am_ib_ok (List.all_eq_true.mp ik_Told_copyFrom r hr), rfl, rfl⟩
  | 33, hq => by cases hq; exact ⟨fun r hr => am_ib_ok (List.all_eq_true.mp ik_C_meets r hr), rfl, rfl⟩
  | 34, hq => by cases hq; exact ⟨fun r hr => am_ib_ok (List.all_eq_true.mp ik_C_swaps r hr), rfl, rfl⟩
  | 35, hq => by cases hq; exact ⟨fun r hr => am_ib_ok (List.all_eq_true.mp ik_C_swap r hr), rfl, rfl⟩
  | 36, hq => by cases hq; exact ⟨fun r hr => am_ib_ok (List.all_eq_true.mp ik_C_whose r hr), rfl, rfl⟩
  | 37, hq => by cases hq; exact ⟨fun r hr => am_ib_ok (List.all_eq_true.mp ik_C_see r hr), rfl, rfl⟩
  | 38, hq => by cases hq; exact ⟨fun r hr => am_ib_ok (List.all_eq_true.mp ik_C_keep r hr), rfl, rfl⟩
  | 39, hq => by cases hq; exact ⟨fun r hr => am_ib_ok (List.all_eq_true.mp ik_C_back r hr), rfl, rfl⟩
  | 40, hq => by cases hq; exact ⟨fun r hr => am_ib_ok (List.all_eq_true.mp ik_M_number r hr), rfl, rfl⟩
  | 41, hq => by cases hq; exact ⟨fun r hr => am_ib_ok (List.all_eq_true.mp ik_M_keepText r hr), rfl, rfl⟩
  | 42, hq => by cases hq; exact ⟨fun r hr => am_ib_ok (List.all_eq_true.mp ik_M_thingRead r hr), rfl, rfl⟩
  | 43, hq => by cases hq; exact ⟨fun r hr => am_ib_ok (List.all_eq_true.mp ik_M_isOnce r hr), rfl, rfl⟩
  | 44, hq => by cases hq; exact ⟨fun r hr => am_ib_ok (List.all_eq_true.mp ik_M_leafRead r hr), rfl, rfl⟩
  | 45, hq => by cases hq; exact ⟨fun r hr => am_ib_ok (List.all_eq_true.mp ik_M_signs r hr), rfl, rfl⟩
  | 46, hq => by cases hq; exact ⟨fun r hr => am_ib_ok (List.all_eq_true.mp ik_M_lawOf r hr), rfl, rfl⟩
  | n + 47, hq => absurd hj (by omega)
theorem am_Mk_188 : ∀ (j : Nat) (q : am_Y), am_at (am_MT.drop 188) j = some q → j < 47 → am_Mk (188 + j) q := by
  intro j q hq hj
  exact match j, hq with
  | 0, hq => by cases hq; exact ⟨fun r hr => am_ib_ok (List.all_eq_true.mp ik_M_hang r hr), rfl, rfl⟩
  | 1, hq => by cases hq; exact ⟨fun r hr => am_ib_ok (List.all_eq_true.mp ik_M_turn r hr), rfl, rfl⟩
  | 2, hq => by cases hq; exact ⟨fun r hr => am_ib_ok (List.all_eq_true.mp ik_M_trade r hr), rfl, rfl⟩
  | 3, hq => by cases hq; exact ⟨fun r hr => am_ib_ok (List.all_eq_true.mp ik_M_meet r hr), rfl, rfl⟩
  | 4, hq => by cases hq; exact ⟨fun r hr => am_ib_ok (List.all_eq_true.mp ik_M_swapped r hr), rfl, rfl⟩
  | 5, hq => by cases hq; exact ⟨fun r hr => am_ib_ok (List.all_eq_true.mp ik_M_isHome r hr), rfl, rfl⟩
  | 6, hq => by cases hq; exact ⟨fun r hr => am_ib_ok (List.all_eq_true.mp ik_M_ofLook r hr), rfl, rfl⟩
  | 7, hq => by cases hq; exact ⟨fun r hr => am_ib_ok (List.all_eq_true.mp ik_M_look r hr), rfl, rfl⟩
  | 8, hq => by cases hq; exact ⟨fun r hr => am_ib_ok (List.all_eq_true.mp ik_M_isSo r hr), rfl, rfl⟩
  | 9, hq => by cases hq; exact ⟨fun r hr => am_ib_ok (List.all_eq_true.mp ik_Day_light r hr), rfl, rfl⟩
  | 10, hq => by cases hq; exact ⟨fun r hr => am_ib_ok (List.all_eq_true.mp ik_Day_worth r hr), rfl, rfl⟩
  | 11, hq => by cases hq; exact ⟨fun r hr => am_ib_ok (List.all_eq_true.mp ik_Day_nearWorth r hr), rfl, rfl⟩
  | 12, hq => by cases hq; exact ⟨fun r hr => am_ib_ok (List.all_eq_true.mp ik_Reader_pass r hr), rfl, rfl⟩
  | 13, hq => by cases hq; exact ⟨fun r hr => am_ib_ok (List.all_eq_true.mp ik_Reader_takeNumber r hr), rfl, rfl⟩
  | 14, hq => by cases hq; exact ⟨fun r hr => am_ib_ok (List.all_eq_true.mp ik_Reader_takeHow r hr), rfl, rfl⟩
  | 15, hq => by cases hq; exact ⟨fun r hr => am_ib_ok (List.all_eq_true.mp ik_Reader_readMeeting r hr), rfl, rfl⟩
  | 16, hq => by cases hq; exact ⟨fun r hr => am_ib_ok (List.all_eq_true.mp ik_Reader_readRule r hr), rfl, rfl⟩
  | 17, hq => by cases hq; exact ⟨fun r hr => am_ib_ok (List.all_eq_true.mp ik_Reader_readExpression r hr), rfl, rfl⟩
  | 18, hq => by cases hq; exact ⟨fun r hr => am_ib_ok (List.all_eq_true.mp ik_Scanner_start r hr), rfl, rfl⟩
  | 19, hq => by cases hq; exact ⟨fun r hr => am_ib_ok (List.all_eq_true.mp ik_C_hang r hr), rfl, rfl⟩
  | 20, hq => by cases hq; exact ⟨fun r hr => am_ib_ok (List.all_eq_true.mp ik_C_turn r hr), rfl, rfl⟩
  | 21, hq => by cases hq; exact ⟨fun r hr => am_ib_ok (List.all_eq_true.mp ik_C_trade r hr), rfl, rfl⟩
  | 22, hq => by cases hq; exact ⟨fun r hr => am_ib_ok (List.all_eq_true.mp ik_C_meet r hr), rfl, rfl⟩
  | 23, hq => by cases hq; exact ⟨fun r hr => am_ib_ok (List.all_eq_true.mp ik_C_undo r hr), rfl, rfl⟩
  | 24, hq => by cases hq; exact ⟨fun r hr => am_ib_ok (List.all_eq_true.mp ik_M_thingLine r hr), rfl, rfl⟩
  | 25, hq => by cases hq; exact ⟨fun r hr => am_ib_ok (List.all_eq_true.mp ik_M_lampLine r hr), rfl, rfl⟩
  | 26, hq => by cases hq; exact ⟨fun r hr => am_ib_ok (List.all_eq_true.mp ik_M_meetLine r hr), rfl, rfl⟩
  | 27, hq => by cases hq; exact ⟨fun r hr => am_ib_ok (List.all_eq_true.mp ik_M_sumRead r hr), rfl, rfl⟩
  | 28, hq => by cases hq; exact ⟨fun r hr => am_ib_ok (List.all_eq_true.mp ik_M_lateOf r hr), rfl, rfl⟩
  | 29, hq => by cases hq; exact ⟨fun r hr => am_ib_ok (List.all_eq_true.mp ik_M_nearOf r hr), rfl, rfl⟩
  | 30, hq => by cases hq; exact ⟨fun r hr => am_ib_ok (List.all_eq_true.mp ik_M_priceOf r hr), rfl, rfl⟩
  | 31, hq => by cases hq; exact ⟨fun r hr => am_ib_ok (List.all_eq_true.mp ik_M_law r hr), rfl, rfl⟩
  | 32, hq => by cases hq; exact ⟨fun r hr => am_ib_ok (List.all_eq_true.mp ik_M_laySwaps r hr), rfl, rfl⟩
  | 33, hq => by cases hq; exact ⟨fun r hr => am_ib_ok (List.all_eq_true.mp ik_M_alike r hr), rfl, rfl⟩
  | 34, hq => by cases hq; exact ⟨fun r hr => am_ib_ok (List.all_eq_true.mp ik_M_sorts r hr), rfl, rfl⟩
  | 35, hq => by cases hq; exact ⟨fun r hr => am_ib_ok (List.all_eq_true.mp ik_M_whose r hr), rfl, rfl⟩
  | 36, hq => by cases hq; exact ⟨fun r hr => am_ib_ok (List.all_eq_true.mp ik_Day_gather r hr), rfl, rfl⟩
  | 37, hq => by cases hq; exact ⟨fun r hr => am_ib_ok (List.all_eq_true.mp ik_Day_measure r hr), rfl, rfl⟩
  | 38, hq => by cases hq; exact ⟨fun r hr => am_ib_ok (List.all_eq_true.mp ik_Day_finish r hr), rfl, rfl⟩
  | 39, hq => by cases hq; exact ⟨fun r hr => am_ib_ok (List.all_eq_true.mp ik_Day_priceOf r hr), rfl, rfl⟩
  | 40, hq => by cases hq; exact ⟨fun r hr => am_ib_ok (List.all_eq_true.mp ik_Reader_readThing r hr), rfl, rfl⟩
  | 41, hq => by cases hq; exact ⟨fun r hr => am_ib_ok (List.all_eq_true.mp ik_Reader_readLamp r hr), rfl, rfl⟩
  | 42, hq => by cases hq; exact ⟨fun r hr => am_ib_ok (List.all_eq_true.mp ik_Reader_readFog r hr), rfl, rfl⟩
  | 43, hq => by cases hq; exact ⟨fun r hr => am_ib_ok (List.all_eq_true.mp ik_Reader_readSeed r hr), rfl, rfl⟩
  | 44, hq => by cases hq; exact ⟨fun r hr => am_ib_ok (List.all_eq_true.mp ik_Reader_readLaw r hr), rfl, rfl⟩
  | 45, hq => by cases hq; exact ⟨fun r hr => am_ib_ok (List.all_eq_true.mp ik_C_law r hr), rfl, rfl⟩
  | 46, hq => by cases hq; exact ⟨fun r hr => am_ib_ok (List.all_eq_true.mp ik_M_lineRead r hr), rfl, rfl⟩
  | n + 47, hq => absurd hj (by omega)
theorem am_Mk_235 : ∀ (j : Nat) (q : am_Y), am_at (am_MT.drop 235) j = some q → j < 47 → am_Mk (235 + j) q := by
  intro j q hq hj
  exact match j, hq with
  | 0, hq => by cases hq; exact ⟨fun r hr => am_ib_ok (List.all_eq_true.mp ik_M_dusk r hr), rfl, rfl⟩
  | 1, hq => by cases hq; exact ⟨fun r hr => am_ib_ok (List.all_eq_true.mp ik_M_lights r hr), rfl, rfl⟩
  | 2, hq => by cases hq; exact ⟨fun r hr => am_ib_ok (List.all_eq_true.mp ik_M_swaps r hr), rfl, rfl⟩
  | 3, hq => by cases hq; exact ⟨fun r hr => am_ib_ok (List.all_eq_true.mp ik_M_swap r hr), rfl, rfl⟩
  | 4, hq => by cases hq; exact ⟨fun r hr => am_ib_ok (List.all_eq_true.mp ik_M_price r hr), rfl, rfl⟩
  | 5, hq => by cases hq; exact ⟨fun r hr => am_ib_ok (List.all_eq_true.mp ik_Day_pass r hr), rfl, rfl⟩
  | 6, hq => by cases hq; exact ⟨fun r hr => am_ib_ok (List.all_eq_true.mp ik_Day_passInFog r hr), rfl, rfl⟩
  | 7, hq => by cases hq; exact ⟨fun r hr => am_ib_ok (List.all_eq_true.mp ik_Finder_prepare r hr), rfl, rfl⟩
  | 8, hq => by cases hq; exact ⟨fun r hr => am_ib_ok (List.all_eq_true.mp ik_Finder_tryOrder r hr), rfl, rfl⟩
  | 9, hq => by cases hq; exact ⟨fun r hr => am_ib_ok (List.all_eq_true.mp ik_Finder_tryHang r hr), rfl, rfl⟩
  | 10, hq => by cases hq; exact ⟨fun r hr => am_ib_ok (List.all_eq_true.mp ik_Reader_readLine r hr), rfl, rfl⟩
  | 11, hq => by cases hq; exact ⟨fun r hr => am_ib_ok (List.all_eq_true.mp ik_C_price r hr), rfl, rfl⟩
  | 12, hq => by cases hq; exact ⟨fun r hr => am_ib_ok (List.all_eq_true.mp ik_M_text r hr), rfl, rfl⟩
  | 13, hq => by cases hq; exact ⟨fun r hr => am_ib_ok (List.all_eq_true.mp ik_M_goOn r hr), rfl, rfl⟩
  | 14, hq => by cases hq; exact ⟨fun r hr => am_ib_ok (List.all_eq_true.mp ik_Day_passByNumbers r hr), rfl, rfl⟩
  | 15, hq => by cases hq; exact ⟨fun r hr => am_ib_ok (List.all_eq_true.mp ik_Finder_findBestOrder r hr), rfl, rfl⟩
  | 16, hq => by cases hq; exact ⟨fun r hr => am_ib_ok (List.all_eq_true.mp ik_Finder_findGivingOrder r hr), rfl, rfl⟩
  | 17, hq => by cases hq; exact ⟨fun r hr => am_ib_ok (List.all_eq_true.mp ik_Finder_findHang r hr), rfl, rfl⟩
  | 18, hq => by cases hq; exact ⟨fun r hr => am_ib_ok (List.all_eq_true.mp ik_Finder_findRests r hr), rfl, rfl⟩
  | 19, hq => by cases hq; exact ⟨fun r hr => am_ib_ok (List.all_eq_true.mp ik_Reader_read r hr), rfl, rfl⟩
  | 20, hq => by cases hq; exact ⟨fun r hr => am_ib_ok (List.all_eq_true.mp ik_C_agrees r hr), rfl, rfl⟩
  | 21, hq => by cases hq; exact ⟨fun r hr => am_ib_ok (List.all_eq_true.mp ik_C_season r hr), rfl, rfl⟩
  | 22, hq => by cases hq; exact ⟨fun r hr => am_ib_ok (List.all_eq_true.mp ik_C_endsWithOwn r hr), rfl, rfl⟩
  | 23, hq => by cases hq; exact ⟨fun r hr => am_ib_ok (List.all_eq_true.mp ik_C_tried r hr), rfl, rfl⟩
  | 24, hq => by cases hq; exact ⟨fun r hr => am_ib_ok (List.all_eq_true.mp ik_M_days r hr), rfl, rfl⟩
  | 25, hq => by cases hq; exact ⟨fun r hr => am_ib_ok (List.all_eq_true.mp ik_M_layOrder r hr), rfl, rfl⟩
  | 26, hq => by cases hq; exact ⟨fun r hr => am_ib_ok (List.all_eq_true.mp ik_M_hangs r hr), rfl, rfl⟩
  | 27, hq => by cases hq; exact ⟨fun r hr => am_ib_ok (List.all_eq_true.mp ik_M_rules r hr), rfl, rfl⟩
  | 28, hq => by cases hq; exact ⟨fun r hr => am_ib_ok (List.all_eq_true.mp ik_M_restAt r hr), rfl, rfl⟩
  | 29, hq => by cases hq; exact ⟨fun r hr => am_ib_ok (List.all_eq_true.mp ik_M_season r hr), rfl, rfl⟩
  | 30, hq => by cases hq; exact ⟨fun r hr => am_ib_ok (List.all_eq_true.mp ik_M_whole r hr), rfl, rfl⟩
  | 31, hq => by cases hq; exact ⟨fun r hr => am_ib_ok (List.all_eq_true.mp ik_M_chance r hr), rfl, rfl⟩
  | 32, hq => by cases hq; exact ⟨fun r hr => am_ib_ok (List.all_eq_true.mp ik_M_tried r hr), rfl, rfl⟩
  | 33, hq => by cases hq; exact ⟨fun r hr => am_ib_ok (List.all_eq_true.mp ik_C_text r hr), rfl, rfl⟩
  | 34, hq => by cases hq; exact ⟨fun r hr => am_ib_ok (List.all_eq_true.mp ik_C_days r hr), rfl, rfl⟩
  | 35, hq => by cases hq; exact ⟨fun r hr => am_ib_ok (List.all_eq_true.mp ik_C_best r hr), rfl, rfl⟩
  | 36, hq => by cases hq; exact ⟨fun r hr => am_ib_ok (List.all_eq_true.mp ik_C_gives r hr), rfl, rfl⟩
  | 37, hq => by cases hq; exact ⟨fun r hr => am_ib_ok (List.all_eq_true.mp ik_C_hangs r hr), rfl, rfl⟩
  | 38, hq => by cases hq; exact ⟨fun r hr => am_ib_ok (List.all_eq_true.mp ik_C_rules r hr), rfl, rfl⟩
  | 39, hq => by cases hq; exact ⟨fun r hr => am_ib_ok (List.all_eq_true.mp ik_C_rests r hr), rfl, rfl⟩
  | 40, hq => by cases hq; exact ⟨fun r hr => am_ib_ok (List.all_eq_true.mp ik_C_rest r hr), rfl, rfl⟩
  | 41, hq => by cases hq; exact ⟨fun r hr => am_ib_ok (List.all_eq_true.mp ik_C_whole r hr), rfl, rfl⟩
  | 42, hq => by cases hq; exact ⟨fun r hr => am_ib_ok (List.all_eq_true.mp ik_C_chance r hr), rfl, rfl⟩
  | 43, hq => by cases hq; exact ⟨fun r hr => am_ib_ok (List.all_eq_true.mp ik_M_best r hr), rfl, rfl⟩
  | 44, hq => by cases hq; exact ⟨fun r hr => am_ib_ok (List.all_eq_true.mp ik_M_gives r hr), rfl, rfl⟩
  | 45, hq => by cases hq; exact ⟨fun r hr => am_ib_ok (List.all_eq_true.mp ik_M_rests r hr), rfl, rfl⟩
  | 46, hq => by cases hq; exact ⟨fun r hr => am_ib_ok (List.all_eq_true.mp ik_M_rest r hr), rfl, rfl⟩
  | n + 47, hq => absurd hj (by omega)
theorem am_at_drop {α : Type} (l : List α) (k j : Nat) : am_at (l.drop k) j = am_at l (k + j) := by
  rw [am_at_eq, am_at_eq, List.getElem?_drop]
theorem am_Mk_all : ∀ (y : Nat) (q : am_Y), am_at am_MT y = some q → am_Mk y q := by
  intro y q h
  have hy : y < 282 := by rw [← am_MT_len]; exact am_lt_of h
  have key : ∀ k, k ≤ y → am_at (am_MT.drop k) (y - k) = some q := by
    intro k hk
    rw [am_at_drop, show k + (y - k) = y by omega]
    exact h
  by_cases h1 : y < 47
  · have := am_Mk_0 (y - 0) q (key 0 (by omega)) (by omega)
    rwa [show 0 + (y - 0) = y by omega] at this
  by_cases h2 : y < 94
  · have := am_Mk_47 (y - 47) q (key 47 (by omega)) (by omega)
    rwa [show 47 + (y - 47) = y by omega] at this
  by_cases h3 : y < 141
  · have := am_Mk_94 (y - 94) q (key 94 (by omega)) (by omega)
    rwa [show 94 + (y - 94) = y by omega] at this
  by_cases h4 : y < 188
  · have := am_Mk_141 (y - 141) q (key 141 (by omega)) (by omega)
    rwa [show 141 + (y - 141) = y by omega] at this
  by_cases h5 : y < 235
  · have := am_Mk_188 (y - 188) q (key 188 (by omega)) (by omega)
    rwa [show 188 + (y - 188) = y by omega] at this
  · have := am_Mk_235 (y - 235) q (key 235 (by omega)) (by omega)
    rwa [show 235 + (y - 235) = y by omega] at this
/-- THE ABSTRACT MACHINE IS SOUND: what a method answers there, it answers on the machine -/
theorem am_ok (l : Launch) (F d : Nat) : am_Ev l am_G (am_call am_G am_MT F d) d := am_sound am_GK_ok am_m8 am_Mk_all F d
