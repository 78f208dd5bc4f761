section
/-! a byte, signed and not -/
theorem jb255 : ∀ i : Fin 32, (255#32).getLsbD i.1 = decide (i.1 < 8) := by decide
theorem jbByte {y : BitVec 32} {k : Nat} (hk : k ≤ 24) : (y >>> k) &&& 255#32 = ((y.sshiftRight k).setWidth 8).signExtend 32 &&& 255#32 := by
  apply BitVec.eq_of_getLsbD_eq
  intro i hi
  rw [BitVec.getLsbD_and, BitVec.getLsbD_and, jb255 ⟨i, hi⟩]
  by_cases h8 : i < 8
  · rw [BitVec.getLsbD_signExtend, BitVec.getLsbD_setWidth, BitVec.getLsbD_sshiftRight, BitVec.getLsbD_ushiftRight]
    have h1 : k + i < 32 := by omega
    simp [h8, h1, hi]
  · simp [h8]
theorem jbB2 {y : BitVec 32} {k : Nat} (hk : k ≤ 24) : (((y.sshiftRight k).setWidth 8).signExtend 32).setWidth 8 = (y.sshiftRight k).setWidth 8 := by
  apply BitVec.eq_of_getLsbD_eq
  intro i hi
  rw [BitVec.getLsbD_setWidth, BitVec.getLsbD_signExtend, BitVec.getLsbD_setWidth]
  have h1 : i < 32 := by omega
  simp [hi, h1]
theorem jbSx {y : BitVec 32} : y.signExtend 8 = y.setWidth 8 := by
  apply BitVec.eq_of_getLsbD_eq
  intro i hi
  rw [BitVec.getLsbD_signExtend, BitVec.getLsbD_setWidth]
  have h1 : i < 32 := by omega
  simp [hi, h1]
theorem jbIn8 {x : Int32} : (Int32.toInt8 x).toInt32.toBitVec = (x.toBitVec.setWidth 8).signExtend 32 := by
  rw [Int8.toBitVec_toInt32, Int32.toBitVec_toInt8, jbSx]
theorem jb8 {x : Int32} {k : Nat} (hk : k = 0 ∨ k = 8 ∨ k = 16 ∨ k = 24) : ((Int32.toUInt32 x >>> (Int32.toUInt32 (nI k) &&& Int32.toUInt32 31)).toInt32) &&& nI 255 = ((Int32.toInt8 ((Int32.toInt8 (x >>> (nI k &&& 31))).toInt32)).toInt32) &&& nI 255 := by
  apply Int32.toBitVec_inj.mp
  have e1 : (Int32.toUInt32 (nI k) &&& Int32.toUInt32 31).toBitVec.toNat % 32 = k := by
    rcases hk with rfl | rfl | rfl | rfl <;> decide
  have e2 : ((nI k &&& 31).toBitVec.smod 32#32).toNat = k := by
    rcases hk with rfl | rfl | rfl | rfl <;> decide
  have hk24 : k ≤ 24 := by omega
  have l : ((Int32.toUInt32 x >>> (Int32.toUInt32 (nI k) &&& Int32.toUInt32 31)).toInt32).toBitVec = x.toBitVec >>> k := by
    show (Int32.toUInt32 x >>> (Int32.toUInt32 (nI k) &&& Int32.toUInt32 31)).toBitVec = _
    rcases hk with rfl | rfl | rfl | rfl <;> rfl
  have r : (x >>> (nI k &&& 31)).toBitVec = x.toBitVec.sshiftRight k := by
    rcases hk with rfl | rfl | rfl | rfl <;> rfl
  rw [Int32.toBitVec_and, Int32.toBitVec_and, l, jbIn8, jbIn8, r, jbB2 hk24]
  exact jbByte hk24
theorem jbLt {x : Int32} : ∃ c, c < 256 ∧ x &&& nI 255 = nI c := by
  refine ⟨(x.toBitVec &&& 255#32).toNat, ?_, ?_⟩
  · rw [BitVec.toNat_and]
    exact Nat.lt_of_le_of_lt Nat.and_le_right (by decide)
  · apply Int32.toBitVec_inj.mp
    rw [Int32.toBitVec_and]
    show _ = BitVec.ofNat 32 _
    rw [BitVec.ofNat_toNat, BitVec.setWidth_eq]
    rfl
end
