theorem sn_rm {T : Td} {ord : List Nat} {U : Nat → Nat} {mt : List (Nat × Nat)} {h : Hs} {w : List Nat} {day p : Nat} {m m' : am_M} (s : sn 71 T ord U mt h w day m) (hp : p < mt.length) (a3 : ∀ c, c ≠ 71 → c ≠ 71 + 5 → c ≠ 71 + 6 → m'.1 c = m.1 c) (a4 : ∀ i, i ≠ 9 → m'.1 71 i = m.1 71 i) (a5 : m'.1 71 9 = zn (mt.length - 1)) (a6 : ∀ j, j < p → m'.1 (71 + 5) j = m.1 (71 + 5) j ∧ m'.1 (71 + 6) j = m.1 (71 + 6) j) (a7 : ∀ j, p ≤ j → j < mt.length - 1 → m'.1 (71 + 5) j = m.1 (71 + 5) (j + 1) ∧ m'.1 (71 + 6) j = m.1 (71 + 6) (j + 1)) : sn 71 T ord U (mt.eraseIdx p) h w day m' := by
  have el : (mt.eraseIdx p).length = mt.length - 1 := by rw [List.length_eraseIdx, if_pos hp]
  refine ⟨?_, ?_, ?_, ?_, ?_, ?_, ?_, ?_, ?_, ?_⟩
  · rw [a4 0 (by omega)]; exact s.n
  · rw [a3 (71 + 1) (by omega) (by omega) (by omega)]; exact s.hs
  · rw [a4 3 (by omega)]; exact s.wl
  · rw [a3 (71 + 2) (by omega) (by omega) (by omega)]; exact s.ws
  · rw [a4 10 (by omega)]; exact s.dy
  · rw [a4 6 (by omega)]; exact s.ol
  · rw [a3 (71 + 4) (by omega) (by omega) (by omega)]; exact s.os
  · rw [a3 (71 + 3) (by omega) (by omega) (by omega)]; exact s.hu
  · rw [el]; exact a5
  · intro i hi
    rw [el] at hi
    rw [er_at]
    by_cases e : i < p
    · rw [if_pos e, (a6 i e).1, (a6 i e).2]; exact s.ms i (by omega)
    · rw [if_neg e, (a7 i (by omega) hi).1, (a7 i (by omega) hi).2]; exact s.ms (i + 1) (by omega)
theorem sn_add {T : Td} {ord : List Nat} {U : Nat → Nat} {mt : List (Nat × Nat)} {h : Hs} {w : List Nat} {day p a b : Nat} {m m' : am_M} (s : sn 71 T ord U mt h w day m) (hp : p ≤ mt.length) (a3 : ∀ c, c ≠ 71 → c ≠ 71 + 5 → c ≠ 71 + 6 → m'.1 c = m.1 c) (a4 : ∀ i, i ≠ 9 → m'.1 71 i = m.1 71 i) (a5 : m'.1 71 9 = zn (mt.length + 1)) (a6 : m'.1 (71 + 5) p = zn a ∧ m'.1 (71 + 6) p = zn b) (a7 : ∀ j, j < p ∨ mt.length < j → m'.1 (71 + 5) j = m.1 (71 + 5) j ∧ m'.1 (71 + 6) j = m.1 (71 + 6) j) (a8 : ∀ j, p < j → j ≤ mt.length → m'.1 (71 + 5) j = m.1 (71 + 5) (j - 1) ∧ m'.1 (71 + 6) j = m.1 (71 + 6) (j - 1)) : sn 71 T ord U (mt.insertIdx p (min a b, max a b)) h w day m' := by
  have el : (mt.insertIdx p (min a b, max a b)).length = mt.length + 1 := by rw [List.length_insertIdx, if_pos hp]
  refine ⟨?_, ?_, ?_, ?_, ?_, ?_, ?_, ?_, ?_, ?_⟩
  · rw [a4 0 (by omega)]; exact s.n
  · rw [a3 (71 + 1) (by omega) (by omega) (by omega)]; exact s.hs
  · rw [a4 3 (by omega)]; exact s.wl
  · rw [a3 (71 + 2) (by omega) (by omega) (by omega)]; exact s.ws
  · rw [a4 10 (by omega)]; exact s.dy
  · rw [a4 6 (by omega)]; exact s.ol
  · rw [a3 (71 + 4) (by omega) (by omega) (by omega)]; exact s.os
  · rw [a3 (71 + 3) (by omega) (by omega) (by omega)]; exact s.hu
  · rw [el]; exact a5
  · intro i hi
    rw [el] at hi
    rw [in_at hp]
    by_cases e : i < p
    · rw [if_pos e, (a7 i (Or.inl e)).1, (a7 i (Or.inl e)).2]; exact s.ms i (by omega)
    · rw [if_neg e]
      by_cases e' : i = p
      · rw [if_pos e', e', a6.1, a6.2]
        rcases Nat.le_total a b with g | g
        · left; rw [Nat.min_eq_left g, Nat.max_eq_right g]; exact ⟨rfl, rfl⟩
        · right; rw [Nat.min_eq_right g, Nat.max_eq_left g]; exact ⟨rfl, rfl⟩
      · rw [if_neg e', (a8 i (by omega) (by omega)).1, (a8 i (by omega) (by omega)).2]; exact s.ms (i - 1) (by omega)
/-- the pair of a meeting, as it stands in the row -/
theorem mt_pair {mt : List (Nat × Nat)} {p : Nat} (hm : ∀ x, x ∈ mt → x.1 < x.2) (hp : p < mt.length) : (min (mt.getD p (0, 0)).1 (mt.getD p (0, 0)).2, max (mt.getD p (0, 0)).1 (mt.getD p (0, 0)).2) = mt.getD p (0, 0) ∧ (min (mt.getD p (0, 0)).2 (mt.getD p (0, 0)).1, max (mt.getD p (0, 0)).2 (mt.getD p (0, 0)).1) = mt.getD p (0, 0) := by
  have hm' : (mt.getD p (0, 0)).1 < (mt.getD p (0, 0)).2 := by
    rw [List.getD_eq_getElem?_getD, List.getElem?_eq_getElem hp]; exact hm _ (List.getElem_mem hp)
  generalize mt.getD p (0, 0) = x at hm' ⊢
  obtain ⟨u, v⟩ := x
  have hm'' : u < v := hm'
  constructor
  · show (min u v, max u v) = (u, v)
    rw [Nat.min_eq_left (by omega), Nat.max_eq_right (by omega)]
  · show (min v u, max v u) = (u, v)
    rw [Nat.min_eq_right (by omega), Nat.max_eq_left (by omega)]
theorem er_in {mt : List (Nat × Nat)} {p : Nat} (hp : p < mt.length) : (mt.eraseIdx p).insertIdx p (mt.getD p (0, 0)) = mt := by
  have el : (mt.eraseIdx p).length = mt.length - 1 := by rw [List.length_eraseIdx, if_pos hp]
  refine List.ext_getElem? fun i => ?_
  rw [List.getElem?_insertIdx]
  by_cases e : i < p
  · rw [if_pos e, List.getElem?_eraseIdx, if_pos e]
  · rw [if_neg e]
    by_cases e' : i = p
    · rw [if_pos e', if_pos (by omega), e', List.getD_eq_getElem?_getD, List.getElem?_eq_getElem hp]; rfl
    · rw [if_neg e', List.getElem?_eraseIdx, if_neg (by omega), show i - 1 + 1 = i by omega]
theorem ap_er {mt : List (Nat × Nat)} {x : Nat × Nat} : (mt.insertIdx mt.length x).eraseIdx mt.length = mt := List.eraseIdx_insertIdx_self x
