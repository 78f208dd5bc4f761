section
/-! bits of a long, shifted -/
theorem jaL_sl {P : Int64} {j b : Nat} (hj : j < 64) (hb : b ≤ 1) : jaLb ((P <<< (Int32.toInt64 (nI 1) &&& 63)) ||| (Int32.toInt64 (nI b))) j ↔ (j = 0 ∧ b = 1) ∨ (0 < j ∧ jaLb P (j - 1)) := by
  have e : ∀ b : Fin 2, ∀ j : Fin 64, (Int32.toInt64 (nI b.1)).toBitVec.getLsbD j.1 = decide (j.1 = 0 ∧ b.1 = 1) := by decide
  have e' := e ⟨b, by omega⟩ ⟨j, hj⟩
  simp only [] at e'
  have hl := jaL_l ⟨1, by decide⟩
  simp only [] at hl
  have e2 : (P.toBitVec <<< ((Int32.toInt64 (nI 1) &&& 63).toBitVec.smod 64)) = P.toBitVec <<< 1 := by
    show P.toBitVec <<< ((Int32.toInt64 (nI 1) &&& 63).toBitVec.smod 64).toNat = _
    rw [hl]
  unfold jaLb
  rw [Int64.toBitVec_or, BitVec.getLsbD_or, Bool.or_eq_true, Int64.toBitVec_shiftLeft, e2, BitVec.getLsbD_shiftLeft, e']
  simp only [Bool.and_eq_true, decide_eq_true_eq, Bool.not_eq_true', decide_eq_false_iff_not]
  constructor
  · rintro (h | h)
    · exact Or.inr ⟨by omega, h.2⟩
    · exact Or.inl h
  · rintro (h | h)
    · exact Or.inr h
    · exact Or.inl ⟨⟨hj, by omega⟩, h.2⟩
theorem jaL_sr {P : Int64} {j : Nat} : jaLb ((Int64.toUInt64 P >>> (Int64.toUInt64 (Int32.toInt64 (nI 1)) &&& Int64.toUInt64 63)).toInt64) j ↔ jaLb P (1 + j) := by
  have hs := jaL_u ⟨1, by decide⟩
  simp only [] at hs
  generalize Int64.toUInt64 (Int32.toInt64 (nI 1)) &&& Int64.toUInt64 63 = u at *
  have e : (P.toUInt64 >>> u).toInt64.toBitVec = P.toBitVec >>> 1 := by
    apply BitVec.eq_of_toNat_eq
    show (P.toUInt64 >>> u).toNat = _
    rw [UInt64.toNat_shiftRight, hs, BitVec.toNat_ushiftRight]
    rfl
  unfold jaLb
  rw [e, BitVec.getLsbD_ushiftRight]
theorem jaL_one : ∀ j : Fin 64, (Int64.ofNat 1).toBitVec.getLsbD j.1 = decide (j.1 = 0) := by decide
theorem jaL_all : ∀ j : Fin 64, (Int64.ofNat 18446744073709551615).toBitVec.getLsbD j.1 = true ∧ (Int64.ofNat 18446744073709551614).toBitVec.getLsbD j.1 = decide (j.1 ≠ 0) := by decide
theorem jaL_o1 {A P : Int64} {j : Nat} (hj : j < 64) : jaLb (A ||| (P &&& Int64.ofNat 1)) j ↔ jaLb A j ∨ (jaLb P j ∧ j = 0) := by
  have e := jaL_one ⟨j, hj⟩
  simp only [] at e
  unfold jaLb
  rw [Int64.toBitVec_or, BitVec.getLsbD_or, Bool.or_eq_true, Int64.toBitVec_and, BitVec.getLsbD_and, e, Bool.and_eq_true, decide_eq_true_eq]
theorem jaL_a1 {A : Int64} {j : Nat} (hj : j < 64) : jaLb (A &&& Int64.ofNat 18446744073709551615) j ↔ jaLb A j := by
  have e := (jaL_all ⟨j, hj⟩).1
  simp only [] at e
  unfold jaLb
  rw [Int64.toBitVec_and, BitVec.getLsbD_and, e, Bool.and_true]
theorem jaL_a2 {A : Int64} {j : Nat} (hj : j < 64) : jaLb (A &&& Int64.ofNat 18446744073709551614) j ↔ jaLb A j ∧ j ≠ 0 := by
  have e := (jaL_all ⟨j, hj⟩).2
  simp only [] at e
  unfold jaLb
  rw [Int64.toBitVec_and, BitVec.getLsbD_and, e, Bool.and_eq_true, decide_eq_true_eq]
theorem jaL_x1 {P : Int64} {j : Nat} (hj : j < 64) : jaLb (P ^^^ Int64.ofNat 1) j ↔ (j = 0 ∧ ¬ jaLb P 0) ∨ (j ≠ 0 ∧ jaLb P j) := by
  have e := jaL_one ⟨j, hj⟩
  simp only [] at e
  unfold jaLb
  rw [Int64.toBitVec_xor, BitVec.getLsbD_xor, e]
  by_cases q : j = 0
  · subst q
    cases P.toBitVec.getLsbD 0 <;> simp
  · simp [q]
theorem jaL_b0 {P : Int64} : (lg_cmp (P &&& (Int64.ofNat 1)) (Int64.ofNat 1) = 0) = jaLb P 0 := by
  rw [lg_cmp_eq, ← Int64.toBitVec_inj, Int64.toBitVec_and]
  unfold jaLb
  refine propext ⟨fun h => ?_, fun h => ?_⟩
  · have t := congrArg (fun x => x.getLsbD 0) h
    simp only [BitVec.getLsbD_and] at t
    cases hb : P.toBitVec.getLsbD 0
    · rw [hb] at t
      exact absurd t (by decide)
    · rfl
  · apply BitVec.eq_of_getLsbD_eq
    intro i hi
    have e := jaL_one ⟨i, hi⟩
    simp only [] at e
    rw [BitVec.getLsbD_and, e]
    by_cases q : i = 0
    · subst q
      rw [h]
      rfl
    · simp [q]
/-! what a SENTENCE says of a place -/
def jgCmp (v : Int32) (sg n : Nat) : Prop := (sg = 60 ∧ v < nI n) ∨ (sg = 61 ∧ v = nI n) ∨ (sg = 62 ∧ nI n < v)
def jgLf (s e : jvA) (i : Nat) (c : jbY) : Prop :=
  (c.1 < 5 ∧ s (175 + i) = nI c.1) ∨ (c.1 = 5 ∧ jvRdy s e 0 i) ∨ (c.1 = 6 ∧ jvWd s e i) ∨ (c.1 = 7 ∧ jaBt (e (9 * jvId s i + 2)) c.2.2) ∨ (c.1 = 8 ∧ jaBt (e (9 * jvId s i + 3)) c.2.2) ∨ (c.1 = 9 ∧ e (9 * jvId s i + 1) = nI c.2.2) ∨ (c.1 = 10 ∧ jgCmp (nI i) c.2.1 c.2.2) ∨ (c.1 = 11 ∧ jgCmp (nI (jaCnt (jvEo e (e (9 * jvId s i))) (jz s 33))) c.2.1 c.2.2) ∨ (c.1 = 12 ∧ jgCmp (e (9 * jvId s i)) c.2.1 c.2.2)
/-- codes that may come -/
def jgOk (c : jbY) : Prop := (c.1 ≤ 12 ∨ (20 ≤ c.1 ∧ c.1 ≤ 22)) ∧ c.2.2 < 1000 ∧ ((c.1 = 7 ∨ c.1 = 8) → c.2.2 < 32) ∧ (10 ≤ c.1 → c.1 ≤ 12 → 60 ≤ c.2.1 ∧ c.2.1 ≤ 62)
def jgP : List jbY → Nat → Prop
  | [], n => n = 1
  | c :: l, n => (c.1 = 20 ∧ 1 ≤ n ∧ jgP l n) ∨ ((c.1 = 21 ∨ c.1 = 22) ∧ 2 ≤ n ∧ jgP l (n - 1)) ∨ (c.1 ≤ 12 ∧ jgP l (n + 1))
def jgSp (L : jbY → Prop) (c : jbY) : List Prop → List Prop
  | [] => [L c]
  | b :: r => if c.1 = 20 then (¬ b) :: r else if c.1 = 21 then (match r with | [] => [b] | a :: r => (a ∧ b) :: r) else if c.1 = 22 then (match r with | [] => [b] | a :: r => (a ∨ b) :: r) else L c :: b :: r
def jgEv (L : jbY → Prop) : List jbY → List Prop → List Prop
  | [], st => st
  | c :: l, st => jgEv L l (jgSp L c st)
theorem jgSp_l {L : jbY → Prop} {c : jbY} {st : List Prop} (h : c.1 ≤ 12) : jgSp L c st = L c :: st := by
  rcases st with _ | ⟨b, r⟩
  · rfl
  · show (if c.1 = 20 then _ else if c.1 = 21 then _ else if c.1 = 22 then _ else L c :: b :: r) = _
    rw [if_neg (by omega), if_neg (by omega), if_neg (by omega)]
theorem jgSp_n {L : jbY → Prop} {c : jbY} {b : Prop} {r : List Prop} (h : c.1 = 20) : jgSp L c (b :: r) = (¬ b) :: r := by
  show (if c.1 = 20 then _ else _) = _
  rw [if_pos h]
theorem jgSp_a {L : jbY → Prop} {c : jbY} {a b : Prop} {r : List Prop} (h : c.1 = 21) : jgSp L c (b :: a :: r) = (a ∧ b) :: r := by
  show (if c.1 = 20 then _ else if c.1 = 21 then _ else _) = _
  rw [if_neg (by omega), if_pos h]
theorem jgSp_o {L : jbY → Prop} {c : jbY} {a b : Prop} {r : List Prop} (h : c.1 = 22) : jgSp L c (b :: a :: r) = (a ∨ b) :: r := by
  show (if c.1 = 20 then _ else if c.1 = 21 then _ else if c.1 = 22 then _ else _) = _
  rw [if_neg (by omega), if_neg (by omega), if_pos h]
/-! the class -/
theorem sp_Sn_compares {D : Nat} (hD : 1 ≤ D) {kk : Int32 → jaT → Prop} {τ : jaT} {k p sg n : Nat} {v : Int32} (hp : p < 40) (h2 : (τ k).1 22 0 p = nI sg) (h3 : (τ k).1 23 0 p = nI n) (hs : 60 ≤ sg ∧ sg ≤ 62) (h : kk (jaB (jgCmp v sg n)) τ) : jaDe D jy_Sn_compares [jcSn k, .inl v, .inl (nI p)] τ (jaKi kk) := by
  obtain ⟨D, rfl, hD⟩ := jaSuc hD
  have T : ∀ q : Prop, (q ↔ jgCmp v sg n) → kk (jaB q) τ := fun q hq => by rw [jaB_c hq]; exact h
  have t1 := T True
  have t0 := T False
  rw [jaB_t trivial] at t1
  rw [jaB_f (fun z => z)] at t0
  unfold jgCmp at t1 t0
  apply js_Sn_compares
  simp (disch := first | omega | decide) only [jaU_eq, jaU_U, nI_add, pk_mul, jaIx_nI, vp_inT, true_and, and_true, ↓jaO0, ↓jaO1, nI_z, nI_z2, nI_z3, nI_z4, nI_z5, nI_lt', nI_le', nI_eq', jaUI_at, jaPt_eq, jaPt_ne, jaUI_o, jaUI_2, jaUL_at, jaUL_o, jaUL_1, jaB_z, jaB_1, ↓jaB_01, Classical.not_not, and_self, true_or, or_true, nI_11, Nat.reduceEqDiff, Nat.reduceAdd, Nat.reduceMul, Nat.add_zero, Nat.zero_add, Nat.mul_zero, not_true_eq_false, not_false_eq_true, false_implies, true_implies, h2, h3]
  refine ⟨fun z => ⟨fun y => t0 ⟨fun w => w.elim, fun w => ?_⟩, fun y => t1 ⟨fun _ => Or.inr (Or.inl ⟨by omega, y⟩), fun _ => trivial⟩⟩, fun z => ⟨fun y => t0 ⟨fun w => w.elim, fun w => ?_⟩, fun y => t1 ⟨fun _ => Or.inl ⟨z, ?_⟩, fun _ => trivial⟩⟩, fun z => ⟨fun y => t0 ⟨fun w => w.elim, fun w => ?_⟩, fun y => t1 ⟨fun _ => Or.inr (Or.inr ⟨z, ?_⟩), fun _ => trivial⟩⟩⟩
  · rcases w with w | w | w
    · omega
    · exact y w.2
    · omega
  · rcases w with w | w | w
    · exact Int32.not_le.mpr w.2 y
    · omega
    · omega
  · exact Int32.not_le.mp y
  · rcases w with w | w | w
    · omega
    · omega
    · exact Int32.not_le.mpr w.2 y
  · exact Int32.not_le.mp y
end
