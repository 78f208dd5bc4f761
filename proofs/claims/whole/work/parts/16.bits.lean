section
/-! bits (the first family of kit/laws/BITS, as it bids to be pasted), and what the two programs ask of them -/
def bt (x : Int32) (i : Nat) : Bool := x.toBitVec.getLsbD i
theorem b_ext {x y : Int32} (h : ∀ i, i < 32 → bt x i = bt y i) : x = y := Int32.toBitVec_inj.mp (BitVec.eq_of_getLsbD_eq (fun i hi => h i hi))
theorem b_or (x y : Int32) (i : Nat) : bt (x ||| y) i = (bt x i || bt y i) := by unfold bt; rw [Int32.toBitVec_or, BitVec.getLsbD_or]
theorem b_and (x y : Int32) (i : Nat) : bt (x &&& y) i = (bt x i && bt y i) := by unfold bt; rw [Int32.toBitVec_and, BitVec.getLsbD_and]
theorem b_xor (x y : Int32) (i : Nat) : bt (x ^^^ y) i = (bt x i ^^ bt y i) := by unfold bt; rw [Int32.toBitVec_xor, BitVec.getLsbD_xor]
theorem b_big {x : Int32} {i : Nat} (h : 32 ≤ i) : bt x i = false := BitVec.getLsbD_of_ge _ _ h
theorem b_255 (i : Nat) : bt 255 i = decide (i < 8) := by
  rcases Nat.lt_or_ge i 32 with h | h
  · exact (by decide +kernel : ∀ i, i < 32 → bt 255 i = decide (i < 8)) i h
  · rw [b_big h, decide_eq_false (by omega)]
theorem b_65535 (i : Nat) : bt 65535 i = decide (i < 16) := by
  rcases Nat.lt_or_ge i 32 with h | h
  · exact (by decide +kernel : ∀ i, i < 32 → bt 65535 i = decide (i < 16)) i h
  · rw [b_big h, decide_eq_false (by omega)]
theorem b_m1 : ∀ i, i < 32 → bt (-1) i = true := by decide +kernel
theorem b_0 (i : Nat) : bt 0 i = false := BitVec.getLsbD_zero
theorem s_l : ∀ n, n < 32 → ((nI n &&& 31).toBitVec.smod 32).toNat = n := by decide +kernel
theorem s_u : ∀ n, n < 32 → (((nI n).toUInt32 &&& Int32.toUInt32 31).toBitVec % 32).toNat = n := by decide +kernel
theorem b_shl (n : Nat) (hn : n < 32) (x : Int32) {i : Nat} (hi : i < 32) : bt (x <<< (nI n &&& 31)) i = (decide (n ≤ i) && bt x (i - n)) := by
  unfold bt
  rw [Int32.toBitVec_shiftLeft]
  show (x.toBitVec <<< ((nI n &&& 31).toBitVec.smod 32).toNat).getLsbD i = _
  rw [s_l n hn, BitVec.getLsbD_shiftLeft]
  rcases Nat.lt_or_ge i n with h | h
  · simp [h, Nat.not_le.mpr h]
  · simp [hi, h, Nat.not_lt.mpr h]
theorem b_ushr (n : Nat) (hn : n < 32) (x : Int32) (i : Nat) : bt ((x.toUInt32 >>> ((nI n).toUInt32 &&& Int32.toUInt32 31)).toInt32) i = bt x (n + i) := by
  show (x.toUInt32 >>> ((nI n).toUInt32 &&& Int32.toUInt32 31)).toBitVec.getLsbD i = x.toUInt32.toBitVec.getLsbD (n + i)
  rw [UInt32.toBitVec_shiftRight]
  show (x.toUInt32.toBitVec >>> (((nI n).toUInt32 &&& Int32.toUInt32 31).toBitVec % 32).toNat).getLsbD i = _
  rw [s_u n hn, BitVec.getLsbD_ushiftRight]
theorem b_sshr (n : Nat) (hn : n < 32) (x : Int32) {i : Nat} (hi : i < 32) : bt (x >>> (nI n &&& 31)) i = if n + i < 32 then bt x (n + i) else bt x 31 := by
  unfold bt
  rw [Int32.toBitVec_shiftRight]
  show (x.toBitVec.sshiftRight ((nI n &&& 31).toBitVec.smod 32).toNat).getLsbD i = _
  rw [s_l n hn, BitVec.getLsbD_sshiftRight, BitVec.msb_eq_getLsbD_last]
  simp [hi]
theorem b_shl8 (x : Int32) {i : Nat} (hi : i < 32) : bt (x <<< ((8 : Int32) &&& 31)) i = (decide (8 ≤ i) && bt x (i - 8)) := b_shl 8 (by omega) x hi
theorem b_shl16 (x : Int32) {i : Nat} (hi : i < 32) : bt (x <<< ((16 : Int32) &&& 31)) i = (decide (16 ≤ i) && bt x (i - 16)) := b_shl 16 (by omega) x hi
theorem b_shl24 (x : Int32) {i : Nat} (hi : i < 32) : bt (x <<< ((24 : Int32) &&& 31)) i = (decide (24 ≤ i) && bt x (i - 24)) := b_shl 24 (by omega) x hi
theorem b_sshr8 (x : Int32) {i : Nat} (hi : i < 32) : bt (x >>> ((8 : Int32) &&& 31)) i = if 8 + i < 32 then bt x (8 + i) else bt x 31 := b_sshr 8 (by omega) x hi
theorem b_one : ∀ i, i < 32 → bt (nI 1) i = decide (i = 0) := by decide +kernel
theorem b_one' (i : Nat) : bt (nI 1) i = decide (i = 0) := by
  rcases Nat.lt_or_ge i 32 with h | h
  · exact b_one i h
  · rw [b_big h, decide_eq_false (by omega)]
theorem jaAnd1 (x : Int32) : x &&& nI 1 = nI 1 ↔ bt x 0 = true := by
  constructor
  · intro h
    have q := b_and x (nI 1) 0
    rw [h, b_one 0 (by decide)] at q
    cases hb : bt x 0
    · rw [hb] at q; cases q
    · rfl
  · intro h
    refine b_ext fun i hi => ?_
    rw [b_and, b_one i hi]
    by_cases e : i = 0
    · rw [e, h]; rfl
    · simp [e]
theorem jaBt_bt {x : Int32} {k : Nat} (hk : k < 32) : jaBt x k ↔ bt x k = true := by
  unfold jaBt
  rw [jaAnd1, b_sshr k hk x (by decide), Nat.add_zero, if_pos hk]
theorem jaBt_u {x : Int32} {k : Nat} (hk : k < 32) : ((x.toUInt32 >>> ((nI k).toUInt32 &&& Int32.toUInt32 31)).toInt32 &&& nI 1 = nI 1) = jaBt x k := by
  rw [jaAnd1, b_ushr k hk x, Nat.add_zero]
  exact propext (jaBt_bt hk).symm
theorem bt_mk {q i : Nat} (hq : q < 32) (hi : i < 32) : bt (jaMk (nI q)) i = decide (i = q) := by
  unfold jaMk
  rw [b_shl q hq _ hi, b_one']
  by_cases e : i = q
  · rw [e]; simp
  · by_cases h : q ≤ i
    · have h2 : ¬ i - q = 0 := by omega
      simp [e, h2]
    · simp [e, h]
theorem jaBt_or {x y : Int32} {k : Nat} (hk : k < 32) : jaBt (x ||| y) k ↔ jaBt x k ∨ jaBt y k := by
  rw [jaBt_bt hk, jaBt_bt hk, jaBt_bt hk, b_or, Bool.or_eq_true]
theorem jaBt_and {x y : Int32} {k : Nat} (hk : k < 32) : jaBt (x &&& y) k ↔ jaBt x k ∧ jaBt y k := by
  rw [jaBt_bt hk, jaBt_bt hk, jaBt_bt hk, b_and, Bool.and_eq_true]
theorem jaBt_not {x : Int32} {k : Nat} (hk : k < 32) : jaBt (x ^^^ (-1 : Int32)) k ↔ ¬ jaBt x k := by
  rw [jaBt_bt hk, jaBt_bt hk, b_xor, b_m1 k hk]
  cases bt x k <;> simp
theorem jaBt_mk {q k : Nat} (hq : q < 32) (hk : k < 32) : jaBt (jaMk (nI q)) k ↔ k = q := by
  rw [jaBt_bt hk, bt_mk hq hk, decide_eq_true_iff]
theorem jaBt_0 {k : Nat} (hk : k < 32) : ¬ jaBt (nI 0) k := by
  rw [jaBt_bt hk, nI_0, b_0]
  exact fun h => Bool.noConfusion h
theorem jaBt_ext {x y : Int32} (h : ∀ k, k < 32 → (jaBt x k ↔ jaBt y k)) : x = y := by
  refine b_ext fun i hi => ?_
  have q := h i hi
  rw [jaBt_bt hi, jaBt_bt hi] at q
  cases h1 : bt x i <;> cases h2 : bt y i <;> simp_all
theorem jaBt_z {x : Int32} : x = 0 ↔ ∀ k, k < 32 → ¬ jaBt x k := by
  constructor
  · intro h k hk
    rw [h, ← nI_0]
    exact jaBt_0 hk
  · intro h
    refine jaBt_ext fun k hk => ⟨fun q => absurd q (h k hk), fun q => ?_⟩
    rw [← nI_0] at q
    exact absurd q (jaBt_0 hk)
theorem jaBt_orm {x : Int32} {q k : Nat} (hq : q < 32) (hk : k < 32) : jaBt (x ||| jaMk (nI q)) k ↔ jaBt x k ∨ k = q := by
  rw [jaBt_or hk, jaBt_mk hq hk]
end
