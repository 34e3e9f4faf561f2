theorem ak_Laws_init_0 : ac_Laws_init_0.all (ax_ib 3 prog_5_method_1_code) = true := by decide +kernel
theorem ax_k_Laws_init : ∀ r ∈ ax_Laws_init, ax_Ik 3 prog_5_method_1_code r.1 r.2 := by
  intro r h
  unfold ax_Laws_init at h
  try simp only [List.mem_append] at h
  rcases h with h
  · exact ax_ib_ok (List.all_eq_true.mp ak_Laws_init_0 r h)
theorem ak_Ways_init_0 : ac_Ways_init_0.all (ax_ib 10 prog_12_method_1_code) = true := by decide +kernel
theorem ax_k_Ways_init : ∀ r ∈ ax_Ways_init, ax_Ik 10 prog_12_method_1_code r.1 r.2 := by
  intro r h
  unfold ax_Ways_init at h
  try simp only [List.mem_append] at h
  rcases h with h
  · exact ax_ib_ok (List.all_eq_true.mp ak_Ways_init_0 r h)
theorem ak_Scene_init_0 : ac_Scene_init_0.all (ax_ib 7 prog_9_method_1_code) = true := by decide +kernel
theorem ax_k_Scene_init : ∀ r ∈ ax_Scene_init, ax_Ik 7 prog_9_method_1_code r.1 r.2 := by
  intro r h
  unfold ax_Scene_init at h
  try simp only [List.mem_append] at h
  rcases h with h
  · exact ax_ib_ok (List.all_eq_true.mp ak_Scene_init_0 r h)
theorem ak_Swapper_init_0 : ac_Swapper_init_0.all (ax_ib 8 prog_10_method_1_code) = true := by decide +kernel
theorem ax_k_Swapper_init : ∀ r ∈ ax_Swapper_init, ax_Ik 8 prog_10_method_1_code r.1 r.2 := by
  intro r h
  unfold ax_Swapper_init at h
  try simp only [List.mem_append] at h
  rcases h with h
  · exact ax_ib_ok (List.all_eq_true.mp ak_Swapper_init_0 r h)
theorem ak_Memory_init_0 : ac_Memory_init_0.all (ax_ib 4 prog_6_method_1_code) = true := by decide +kernel
theorem ax_k_Memory_init : ∀ r ∈ ax_Memory_init, ax_Ik 4 prog_6_method_1_code r.1 r.2 := by
  intro r h
  unfold ax_Memory_init at h
  try simp only [List.mem_append] at h
  rcases h with h
  · exact ax_ib_ok (List.all_eq_true.mp ak_Memory_init_0 r h)
theorem ak_Deeds_init_0 : ac_Deeds_init_0.all (ax_ib 1 prog_3_method_1_code) = true := by decide +kernel
theorem ax_k_Deeds_init : ∀ r ∈ ax_Deeds_init, ax_Ik 1 prog_3_method_1_code r.1 r.2 := by
  intro r h
  unfold ax_Deeds_init at h
  try simp only [List.mem_append] at h
  rcases h with h
  · exact ax_ib_ok (List.all_eq_true.mp ak_Deeds_init_0 r h)
theorem ax_k_Scanner_init : ∀ r ∈ ax_Scanner_init, ax_Ik 6 prog_8_method_1_code r.1 r.2 := fun r h => absurd h List.not_mem_nil
theorem ak_Told_init_0 : ac_Told_init_0.all (ax_ib 9 prog_11_method_1_code) = true := by decide +kernel
theorem ak_Told_init_1 : ac_Told_init_1.all (ax_ib 9 prog_11_method_1_code) = true := by decide +kernel
theorem ax_k_Told_init : ∀ r ∈ ax_Told_init, ax_Ik 9 prog_11_method_1_code r.1 r.2 := by
  intro r h
  unfold ax_Told_init at h
  try simp only [List.mem_append] at h
  rcases h with h | h
  · exact ax_ib_ok (List.all_eq_true.mp ak_Told_init_0 r h)
  · exact ax_ib_ok (List.all_eq_true.mp ak_Told_init_1 r h)
theorem ak_Day_init_0 : ac_Day_init_0.all (ax_ib 0 prog_2_method_1_code) = true := by decide +kernel
theorem ax_k_Day_init : ∀ r ∈ ax_Day_init, ax_Ik 0 prog_2_method_1_code r.1 r.2 := by
  intro r h
  unfold ax_Day_init at h
  try simp only [List.mem_append] at h
  rcases h with h
  · exact ax_ib_ok (List.all_eq_true.mp ak_Day_init_0 r h)
theorem ak_Reader_init_0 : ac_Reader_init_0.all (ax_ib 5 prog_7_method_1_code) = true := by decide +kernel
theorem ax_k_Reader_init : ∀ r ∈ ax_Reader_init, ax_Ik 5 prog_7_method_1_code r.1 r.2 := by
  intro r h
  unfold ax_Reader_init at h
  try simp only [List.mem_append] at h
  rcases h with h
  · exact ax_ib_ok (List.all_eq_true.mp ak_Reader_init_0 r h)
theorem ak_Finder_init_0 : ac_Finder_init_0.all (ax_ib 2 prog_4_method_1_code) = true := by decide +kernel
theorem ak_Finder_init_1 : ac_Finder_init_1.all (ax_ib 2 prog_4_method_1_code) = true := by decide +kernel
theorem ax_k_Finder_init : ∀ r ∈ ax_Finder_init, ax_Ik 2 prog_4_method_1_code r.1 r.2 := by
  intro r h
  unfold ax_Finder_init at h
  try simp only [List.mem_append] at h
  rcases h with h | h
  · exact ax_ib_ok (List.all_eq_true.mp ak_Finder_init_0 r h)
  · exact ax_ib_ok (List.all_eq_true.mp ak_Finder_init_1 r h)
theorem ak_C_init_0 : ac_C_init_0.all (ax_ib 11 prog_1_method_1_code) = true := by decide +kernel
theorem ak_C_init_1 : ac_C_init_1.all (ax_ib 11 prog_1_method_1_code) = true := by decide +kernel
theorem ax_k_C_init : ∀ r ∈ ax_C_init, ax_Ik 11 prog_1_method_1_code r.1 r.2 := by
  intro r h
  unfold ax_C_init at h
  try simp only [List.mem_append] at h
  rcases h with h | h
  · exact ax_ib_ok (List.all_eq_true.mp ak_C_init_0 r h)
  · exact ax_ib_ok (List.all_eq_true.mp ak_C_init_1 r h)
theorem ak_M_init_0 : ac_M_init_0.all (ax_ib 12 prog_14_method_1_code) = true := by decide +kernel
theorem ak_M_init_1 : ac_M_init_1.all (ax_ib 12 prog_14_method_1_code) = true := by decide +kernel
theorem ak_M_init_2 : ac_M_init_2.all (ax_ib 12 prog_14_method_1_code) = true := by decide +kernel
theorem ak_M_init_3 : ac_M_init_3.all (ax_ib 12 prog_14_method_1_code) = true := by decide +kernel
theorem ak_M_init_4 : ac_M_init_4.all (ax_ib 12 prog_14_method_1_code) = true := by decide +kernel
theorem ak_M_init_5 : ac_M_init_5.all (ax_ib 12 prog_14_method_1_code) = true := by decide +kernel
theorem ak_M_init_6 : ac_M_init_6.all (ax_ib 12 prog_14_method_1_code) = true := by decide +kernel
theorem ak_M_init_7 : ac_M_init_7.all (ax_ib 12 prog_14_method_1_code) = true := by decide +kernel
theorem ak_M_init_8 : ac_M_init_8.all (ax_ib 12 prog_14_method_1_code) = true := by decide +kernel
theorem ak_M_init_9 : ac_M_init_9.all (ax_ib 12 prog_14_method_1_code) = true := by decide +kernel
theorem ak_M_init_10 : ac_M_init_10.all (ax_ib 12 prog_14_method_1_code) = true := by decide +kernel
theorem ak_M_init_11 : ac_M_init_11.all (ax_ib 12 prog_14_method_1_code) = true := by decide +kernel
theorem ak_M_init_12 : ac_M_init_12.all (ax_ib 12 prog_14_method_1_code) = true := by decide +kernel
theorem ak_M_init_13 : ac_M_init_13.all (ax_ib 12 prog_14_method_1_code) = true := by decide +kernel
theorem ak_M_init_14 : ac_M_init_14.all (ax_ib 12 prog_14_method_1_code) = true := by decide +kernel
theorem ak_M_init_15 : ac_M_init_15.all (ax_ib 12 prog_14_method_1_code) = true := by decide +kernel
theorem ak_M_init_16 : ac_M_init_16.all (ax_ib 12 prog_14_method_1_code) = true := by decide +kernel
theorem ak_M_init_17 : ac_M_init_17.all (ax_ib 12 prog_14_method_1_code) = true := by decide +kernel
theorem ax_k_M_init : ∀ r ∈ ax_M_init, ax_Ik 12 prog_14_method_1_code r.1 r.2 := by
  intro r h
  unfold ax_M_init at h
  try simp only [List.mem_append] at h
  rcases h with h | h | h | h | h | h | h | h | h | h | h | h | h | h | h | h | h | h
  · exact ax_ib_ok (List.all_eq_true.mp ak_M_init_0 r h)
  · exact ax_ib_ok (List.all_eq_true.mp ak_M_init_1 r h)
  · exact ax_ib_ok (List.all_eq_true.mp ak_M_init_2 r h)
  · exact ax_ib_ok (List.all_eq_true.mp ak_M_init_3 r h)
  · exact ax_ib_ok (List.all_eq_true.mp ak_M_init_4 r h)
  · exact ax_ib_ok (List.all_eq_true.mp ak_M_init_5 r h)
  · exact ax_ib_ok (List.all_eq_true.mp ak_M_init_6 r h)
  · exact ax_ib_ok (List.all_eq_true.mp ak_M_init_7 r h)
  · exact ax_ib_ok (List.all_eq_true.mp ak_M_init_8 r h)
  · exact ax_ib_ok (List.all_eq_true.mp ak_M_init_9 r h)
  · exact ax_ib_ok (List.all_eq_true.mp ak_M_init_10 r h)
  · exact ax_ib_ok (List.all_eq_true.mp ak_M_init_11 r h)
  · exact ax_ib_ok (List.all_eq_true.mp ak_M_init_12 r h)
  · exact ax_ib_ok (List.all_eq_true.mp ak_M_init_13 r h)
  · exact ax_ib_ok (List.all_eq_true.mp ak_M_init_14 r h)
  · exact ax_ib_ok (List.all_eq_true.mp ak_M_init_15 r h)
  · exact ax_ib_ok (List.all_eq_true.mp ak_M_init_16 r h)
  · exact ax_ib_ok (List.all_eq_true.mp ak_M_init_17 r h)
theorem ax_code : ∀ (y : Nat) (q : Nat × List (Nat × am_I)), am_at ax_P y = some q → (∀ r ∈ q.2, ax_Ik q.1 (ax_yd y).2.1 r.1 r.2) ∧ (ax_yn y).cls = am_cn q.1 ∧ (y ≠ 6 → (ax_yd y).2.2 = 1) ∧ q.1 ∈ ax_ys ∧ y < 13 := by
  intro y q hq
  exact match y, hq with
  | 0, hq => by cases hq; exact ⟨ax_k_Laws_init, rfl, fun _ => rfl, by decide, by decide⟩
  | 1, hq => by cases hq; exact ⟨ax_k_Ways_init, rfl, fun _ => rfl, by decide, by decide⟩
  | 2, hq => by cases hq; exact ⟨ax_k_Scene_init, rfl, fun _ => rfl, by decide, by decide⟩
  | 3, hq => by cases hq; exact ⟨ax_k_Swapper_init, rfl, fun _ => rfl, by decide, by decide⟩
  | 4, hq => by cases hq; exact ⟨ax_k_Memory_init, rfl, fun _ => rfl, by decide, by decide⟩
  | 5, hq => by cases hq; exact ⟨ax_k_Deeds_init, rfl, fun _ => rfl, by decide, by decide⟩
  | 6, hq => by cases hq; exact ⟨ax_k_Scanner_init, rfl, fun h => absurd rfl h, by decide, by decide⟩
  | 7, hq => by cases hq; exact ⟨ax_k_Told_init, rfl, fun _ => rfl, by decide, by decide⟩
  | 8, hq => by cases hq; exact ⟨ax_k_Day_init, rfl, fun _ => rfl, by decide, by decide⟩
  | 9, hq => by cases hq; exact ⟨ax_k_Reader_init, rfl, fun _ => rfl, by decide, by decide⟩
  | 10, hq => by cases hq; exact ⟨ax_k_Finder_init, rfl, fun _ => rfl, by decide, by decide⟩
  | 11, hq => by cases hq; exact ⟨ax_k_C_init, rfl, fun _ => rfl, by decide, by decide⟩
  | 12, hq => by cases hq; exact ⟨ax_k_M_init, rfl, fun _ => rfl, by decide, by decide⟩
  | n + 13, hq => by cases hq
