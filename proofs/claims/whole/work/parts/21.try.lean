theorem n_Scene_takeFromWall {k : Nat} (hk : sc_k k) (d : Nat) (a1 : Int32) (m : am_M) : ∃ (dp : Bool) (env : Nat → List Value → am_M → am_R), am_c d y_Scene_takeFromWall [.ref k, .int a1] m = am_run am_G dp env 1 pg_Scene_takeFromWall [33] 30000 0 [some (.ref k), some (.int a1), none, none] m := by
  cases d with
  | zero => rcases hk with rfl | rfl | rfl | rfl | rfl <;> exact ⟨_, _, rfl⟩
  | succ d => rcases hk with rfl | rfl | rfl | rfl | rfl <;> exact ⟨_, _, rfl⟩
set_option maxRecDepth 100000 in
theorem e_Scene_takeFromWall_0 {k : Nat} (hk : sc_k k) (dp : Bool) (env : Nat → List Value → am_M → am_R) (n : Nat) (x1 : Int32) (m : am_M) : am_run am_G dp env 1 pg_Scene_takeFromWall [33] (n + 1) 0 [some (.ref k), some (.int x1), none, none] m = (am_br (am_lt x1 (Int32.ofNat 0)) (some (some (.int (-1)), m)) (am_br (am_lt x1 (m.1 k 3)) (am_br (am_oi x1 5) none (am_run am_G dp env 1 pg_Scene_takeFromWall [33] n 33 [some (.ref k), some (.int x1), some (.int (m.1 (k + 2) x1.toNatClampNeg)), some (.int x1)] (am_w m.1 k 3 ((m.1 k 3) - (Int32.ofNat 1)), m.2))) (some (some (.int (-1)), m)))) := by
  rcases hk with rfl | rfl | rfl | rfl | rfl <;> rfl
set_option maxRecDepth 100000 in
theorem e_Scene_takeFromWall_33 {k : Nat} (hk : sc_k k) (dp : Bool) (env : Nat → List Value → am_M → am_R) (n : Nat) (x1 : Int32) (x2 : Int32) (x3 : Int32) (m : am_M) : am_run am_G dp env 1 pg_Scene_takeFromWall [33] (n + 1) 33 [some (.ref k), some (.int x1), some (.int x2), some (.int x3)] m = (am_br (am_le (m.1 k 3) x3) (some (some (.int x2), m)) (am_br (am_oi (x3 + (Int32.ofNat 1)) 5) none (am_br (am_oi x3 5) none (am_run am_G dp env 1 pg_Scene_takeFromWall [33] n 33 [some (.ref k), some (.int x1), some (.int x2), some (.int (x3 + (Int32.ofNat 1)))] (am_w m.1 (k + 2) x3.toNatClampNeg (m.1 (k + 2) ((x3 + (Int32.ofNat 1)).toNatClampNeg)), m.2))))) := by
  rcases hk with rfl | rfl | rfl | rfl | rfl <;> rfl

theorem lp_take {k : Nat} (hk : sc_k k) {dp : Bool} {env : Nat → List Value → am_M → am_R} {x1 x2 : Int32} (r : Nat) : ∀ (i n : Nat) (m : am_M), m.1 k 3 = Int32.ofNat (i + r) → i + r < 5 → r < n →
    am_run am_G dp env 1 pg_Scene_takeFromWall [33] n 33 [some (.ref k), some (.int x1), some (.int x2), some (.int (Int32.ofNat i))] m = some (some (.int x2), (am_sr m.1 (k + 2) (sp_sh (m.1 (k + 2)) r i), m.2)) := by
  induction r with
  | zero =>
    intro i n m h1 h2 h3
    obtain ⟨n, rfl⟩ : ∃ n', n = n' + 1 := ⟨n - 1, by omega⟩
    rw [e_Scene_takeFromWall_33 hk, h1, bz_le (by omega) (by omega), bz_bt (by simp), sp_sh, sr_self]
  | succ r ih =>
    intro i n m h1 h2 h3
    obtain ⟨n, rfl⟩ : ∃ n', n = n' + 1 := ⟨n - 1, by omega⟩
    rw [e_Scene_takeFromWall_33 hk, h1, bz_le (by omega) (by omega), bz_bf (by simp), bz_a, bz_oi (by omega), bz_bf (by simp; omega), bz_oi (by omega), bz_bf (by simp; omega), bz_cl (by omega), bz_cl (by omega), ih (i + 1) n _ (by simp only [am_w_sr, am_wl_sr, am_wc_sr, sr_same, sr_ne, sl_same, sl_ne, sr_sr, sl_sl]; rw [sr_ne (by omega), h1]; congr 1; omega) (by omega) (by omega)]
    simp only [am_w_sr, am_wl_sr, am_wc_sr, sr_same, sr_ne, sl_same, sl_ne, sr_sr, sl_sl, sp_sh]
