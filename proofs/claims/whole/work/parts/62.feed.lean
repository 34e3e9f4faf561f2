/-! a byte of a word -/
theorem b255 : ∀ i : Fin 8, (255#32)[i.val]'(by omega) = true := by decide
theorem by_and (v : Int32) : (v &&& 255).toInt8 = v.toInt8 := by
  apply Int8.toBitVec_inj.mp
  show (v.toBitVec &&& 255#32).signExtend 8 = v.toBitVec.signExtend 8
  ext i h
  have h32 : i < 32 := by omega
  simp only [BitVec.getElem_signExtend, BitVec.getElem_and, h32, dite_true]
  rw [b255 ⟨i, h⟩, Bool.and_true]
theorem by_lt (v : Int32) : ∃ x : Nat, x < 256 ∧ v &&& 255 = zn x := by
  refine ⟨(v.toBitVec &&& 255#32).toNat, ?_, ?_⟩
  · rw [BitVec.toNat_and]; exact Nat.lt_of_le_of_lt Nat.and_le_right (by decide)
  · apply Int32.toBitVec_inj.mp
    show v.toBitVec &&& 255#32 = (zn (v.toBitVec &&& 255#32).toNat).toBitVec
    apply BitVec.eq_of_toNat_eq
    unfold zn
    simp
theorem by_x (v : Int32) : ∃ x : Nat, x < 256 ∧ v &&& zn 255 = zn x ∧ vp_nar .byte v.toInt8.toInt32 = (zn x).toInt8.toInt32 := by
  obtain ⟨x, h1, h2⟩ := by_lt v
  refine ⟨x, h1, h2, ?_⟩
  rw [← h2, by_and]
  show (v.toInt8.toInt32).toInt8.toInt32 = _
  rw [Int8.toInt8_toInt32]
