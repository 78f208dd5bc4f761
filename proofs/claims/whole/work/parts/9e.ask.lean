section
/-! questions: class, then reference -/
theorem jI_0 {σ : jaT} {v : Int32} (h : jI σ) : jI (jaU σ 20 (jaUI (σ 20) 70 0 0 v)) := jI_M (A := []) (F := [0]) h (jaFr.rfl.uf (by decide)) (by decide) (by decide)
theorem jI_F {σ : jaT} {S' : jaS} {v : Int32} {A F : List Nat} (h : jI σ) (f : jaFr A F (jaUI (σ 20) 70 0 0 v) S') (hA : ∀ o, o ∈ [71, 72, 75, 76, 78, 79, 83, 86, 88, 91, 92, 93, 94, 95] → o ∉ A) (hF : ∀ j, j ∈ [2, 18, 33, 37, 38, 39, 43] → j ∉ F) : jI (jaU σ 20 S') := by
  have := jI_M (jI_0 (v := v) h) (S' := S') (by rw [jaU_eq]; exact f) hA hF
  rw [jaU_U] at this
  exact this
theorem jf_fault : jFc jy_A_fault jy_M_fault [] := by
  intro σ hI
  apply js_A_fault
  apply js_M_fault
  refine ⟨?_, jI_0 hI⟩
  rw [hI.1.2.1, jaU_eq, jaUI_at, jaPt_ne (by decide)]
set_option maxHeartbeats 1000000 in
theorem jf_now {x : Int32} : jFc jy_A_now jy_M_now [.inl x] := by
  intro σ hI
  have hR := hI.R
  have hW := hI.W
  have hI0 := jI_0 (v := nI 0) hI
  obtain ⟨k1, k2, k3, -, -⟩ := hR.k
  have o0 := hR.o.1
  have o1 := hR.o.2.1
  have oP := hW.o.pool.1
  have oO := hW.o.ord.1
  have oC := hW.o.came.1
  have oS := hW.o.2.2.2.2.1
  have b36 := hW.b36
  have k36 := hW.k.1
  have t := hR.t
  have m := hR.s.1
  simp only [] at k1 k2 k3 o0 o1 t m
  apply js_A_now
  refine ⟨fun q => ?_, fun q => ?_, fun q => ?_, fun q => ?_, fun q => ?_, fun q => ?_, fun q => ?_, fun q => ?_, fun q => ?_, fun q => ?_, trivial⟩
  · apply js_M_now
    refine ⟨fun _ => ⟨rfl, hI0⟩, fun z => absurd q (by rw [z]; decide), fun z => absurd q (by rw [z]; decide), fun z => absurd q (by rw [z]; decide), fun z => absurd q (by rw [z]; decide), fun z => absurd q (by rw [z]; decide), fun z => absurd q (by rw [z]; decide), fun z => absurd q (by rw [z]; decide), fun z => absurd q (by rw [z]; decide), fun z => absurd q (by rw [z]; decide), trivial⟩
  · subst q
    apply js_M_now
    refine ⟨fun z => absurd z (by decide), fun _ => ?_, fun z => absurd z (by decide), fun z => absurd z (by decide), fun z => absurd z (by decide), fun z => absurd z (by decide), fun z => absurd z (by decide), fun z => absurd z (by decide), fun z => absurd z (by decide), fun z => absurd z (by decide), trivial⟩
    simp (disch := first | omega | decide) only [jaU_eq, jaU_U, nI_add, pk_mul, jaIx_nI, vp_inT, true_and, and_true, ↓jaO0, ↓jaO1, nI_z, nI_z2, nI_z3, nI_z4, nI_z5, nI_lt', nI_le', nI_eq', jaUI_at, jaPt_eq, jaPt_ne, jaUI_o, jaUI_2, jaUL_at, jaUL_o, jaUL_1, jaB_z, jaB_1, ↓jaB_01, Classical.not_not, and_self, true_or, or_true, nI_11, Nat.reduceEqDiff, Nat.reduceAdd, Nat.reduceMul, Nat.add_zero, Nat.zero_add, Nat.mul_zero, not_true_eq_false, not_false_eq_true, false_implies, true_implies, t]
    exact hI0
  · subst q
    apply js_M_now
    refine ⟨fun z => absurd z (by decide), fun z => absurd z (by decide), fun _ => ?_, fun z => absurd z (by decide), fun z => absurd z (by decide), fun z => absurd z (by decide), fun z => absurd z (by decide), fun z => absurd z (by decide), fun z => absurd z (by decide), fun z => absurd z (by decide), trivial⟩
    simp (disch := first | omega | decide) only [jaU_eq, jaU_U, nI_add, pk_mul, jaIx_nI, vp_inT, true_and, and_true, ↓jaO0, ↓jaO1, nI_z, nI_z2, nI_z3, nI_z4, nI_z5, nI_lt', nI_le', nI_eq', jaUI_at, jaPt_eq, jaPt_ne, jaUI_o, jaUI_2, jaUL_at, jaUL_o, jaUL_1, jaB_z, jaB_1, ↓jaB_01, Classical.not_not, and_self, true_or, or_true, nI_11, Nat.reduceEqDiff, Nat.reduceAdd, Nat.reduceMul, Nat.add_zero, Nat.zero_add, Nat.mul_zero, not_true_eq_false, not_false_eq_true, false_implies, true_implies, m]
    exact hI0
  · subst q
    apply js_M_now
    refine ⟨fun z => absurd z (by decide), fun z => absurd z (by decide), fun z => absurd z (by decide), fun _ => ?_, fun z => absurd z (by decide), fun z => absurd z (by decide), fun z => absurd z (by decide), fun z => absurd z (by decide), fun z => absurd z (by decide), fun z => absurd z (by decide), trivial⟩
    simp (disch := first | omega | decide) only [jaU_eq, jaU_U, nI_add, pk_mul, jaIx_nI, vp_inT, true_and, and_true, ↓jaO0, ↓jaO1, nI_z, nI_z2, nI_z3, nI_z4, nI_z5, nI_lt', nI_le', nI_eq', jaUI_at, jaPt_eq, jaPt_ne, jaUI_o, jaUI_2, jaUL_at, jaUL_o, jaUL_1, jaB_z, jaB_1, ↓jaB_01, Classical.not_not, and_self, true_or, or_true, nI_11, Nat.reduceEqDiff, Nat.reduceAdd, Nat.reduceMul, Nat.add_zero, Nat.zero_add, Nat.mul_zero, not_true_eq_false, not_false_eq_true, false_implies, true_implies, o1]
    exact hI0
  · subst q
    apply js_M_now
    refine ⟨fun z => absurd z (by decide), fun z => absurd z (by decide), fun z => absurd z (by decide), fun z => absurd z (by decide), fun _ => ?_, fun z => absurd z (by decide), fun z => absurd z (by decide), fun z => absurd z (by decide), fun z => absurd z (by decide), fun z => absurd z (by decide), trivial⟩
    simp (disch := first | omega | decide) only [jaU_eq, jaU_U, nI_add, pk_mul, jaIx_nI, vp_inT, true_and, and_true, ↓jaO0, ↓jaO1, nI_z, nI_z2, nI_z3, nI_z4, nI_z5, nI_lt', nI_le', nI_eq', jaUI_at, jaPt_eq, jaPt_ne, jaUI_o, jaUI_2, jaUL_at, jaUL_o, jaUL_1, jaB_z, jaB_1, ↓jaB_01, Classical.not_not, and_self, true_or, or_true, nI_11, Nat.reduceEqDiff, Nat.reduceAdd, Nat.reduceMul, Nat.add_zero, Nat.zero_add, Nat.mul_zero, not_true_eq_false, not_false_eq_true, false_implies, true_implies, o0, o1]
    refine ⟨?_, hI0⟩
    rw [oP, oO, nI_sub (by omega), oC]
    congr 1
    omega
  · subst q
    rw [k1]
    rcases k36 with ⟨z36, z37, z38, z39⟩ | ⟨z36, z37, -, z38, -⟩
    · rw [z36]
      refine ⟨fun _ => ?_, fun z => absurd rfl z⟩
      apply js_M_now
      refine ⟨fun z => absurd z (by decide), fun z => absurd z (by decide), fun z => absurd z (by decide), fun z => absurd z (by decide), fun z => absurd z (by decide), fun _ => ?_, fun z => absurd z (by decide), fun z => absurd z (by decide), fun z => absurd z (by decide), fun z => absurd z (by decide), trivial⟩
      simp (disch := first | omega | decide) only [jaU_eq, jaU_U, nI_add, pk_mul, jaIx_nI, vp_inT, true_and, and_true, ↓jaO0, ↓jaO1, nI_z, nI_z2, nI_z3, nI_z4, nI_z5, nI_lt', nI_le', nI_eq', jaUI_at, jaPt_eq, jaPt_ne, jaUI_o, jaUI_2, jaUL_at, jaUL_o, jaUL_1, jaB_z, jaB_1, ↓jaB_01, Classical.not_not, and_self, true_or, or_true, nI_11, Nat.reduceEqDiff, Nat.reduceAdd, Nat.reduceMul, Nat.add_zero, Nat.zero_add, Nat.mul_zero, not_true_eq_false, not_false_eq_true, false_implies, true_implies, z36]
      exact hI0
    · rw [z36]
      refine ⟨fun z => absurd z (by decide), fun _ => ?_⟩
      obtain ⟨⟨y1, y2, y3⟩, -, -⟩ := k2 z36
      apply js_M_now
      refine ⟨fun z => absurd z (by decide), fun z => absurd z (by decide), fun z => absurd z (by decide), fun z => absurd z (by decide), fun z => absurd z (by decide), fun _ => ?_, fun z => absurd z (by decide), fun z => absurd z (by decide), fun z => absurd z (by decide), fun z => absurd z (by decide), trivial⟩
      simp (disch := first | omega | decide) only [jaU_eq, jaU_U, nI_add, pk_mul, jaIx_nI, vp_inT, true_and, and_true, ↓jaO0, ↓jaO1, nI_z, nI_z2, nI_z3, nI_z4, nI_z5, nI_lt', nI_le', nI_eq', jaUI_at, jaPt_eq, jaPt_ne, jaUI_o, jaUI_2, jaUL_at, jaUL_o, jaUL_1, jaB_z, jaB_1, ↓jaB_01, Classical.not_not, and_self, true_or, or_true, nI_11, Nat.reduceEqDiff, Nat.reduceAdd, Nat.reduceMul, Nat.add_zero, Nat.zero_add, Nat.mul_zero, not_true_eq_false, not_false_eq_true, false_implies, true_implies, z36]
      exact hI0
  · subst q
    rw [k1]
    rcases k36 with ⟨z36, z37, z38, z39⟩ | ⟨z36, z37, -, z38, -⟩
    · rw [z36]
      refine ⟨fun _ => ?_, fun z => absurd rfl z⟩
      apply js_M_now
      refine ⟨fun z => absurd z (by decide), fun z => absurd z (by decide), fun z => absurd z (by decide), fun z => absurd z (by decide), fun z => absurd z (by decide), fun z => absurd z (by decide), fun _ => ?_, fun z => absurd z (by decide), fun z => absurd z (by decide), fun z => absurd z (by decide), trivial⟩
      simp (disch := first | omega | decide) only [jaU_eq, jaU_U, nI_add, pk_mul, jaIx_nI, vp_inT, true_and, and_true, ↓jaO0, ↓jaO1, nI_z, nI_z2, nI_z3, nI_z4, nI_z5, nI_lt', nI_le', nI_eq', jaUI_at, jaPt_eq, jaPt_ne, jaUI_o, jaUI_2, jaUL_at, jaUL_o, jaUL_1, jaB_z, jaB_1, ↓jaB_01, Classical.not_not, and_self, true_or, or_true, nI_11, Nat.reduceEqDiff, Nat.reduceAdd, Nat.reduceMul, Nat.add_zero, Nat.zero_add, Nat.mul_zero, not_true_eq_false, not_false_eq_true, false_implies, true_implies, z36]
      first | exact hI0 | exact ⟨fun _ => hI0, fun z => absurd z (by decide)⟩
    · rw [z36]
      refine ⟨fun z => absurd z (by decide), fun _ => ?_⟩
      obtain ⟨⟨y1, y2, y3⟩, -, -⟩ := k2 z36
      apply js_M_now
      refine ⟨fun z => absurd z (by decide), fun z => absurd z (by decide), fun z => absurd z (by decide), fun z => absurd z (by decide), fun z => absurd z (by decide), fun z => absurd z (by decide), fun _ => ?_, fun z => absurd z (by decide), fun z => absurd z (by decide), fun z => absurd z (by decide), trivial⟩
      simp (disch := first | omega | decide) only [jaU_eq, jaU_U, nI_add, pk_mul, jaIx_nI, vp_inT, true_and, and_true, ↓jaO0, ↓jaO1, nI_z, nI_z2, nI_z3, nI_z4, nI_z5, nI_lt', nI_le', nI_eq', jaUI_at, jaPt_eq, jaPt_ne, jaUI_o, jaUI_2, jaUL_at, jaUL_o, jaUL_1, jaB_z, jaB_1, ↓jaB_01, Classical.not_not, and_self, true_or, or_true, nI_11, Nat.reduceEqDiff, Nat.reduceAdd, Nat.reduceMul, Nat.add_zero, Nat.zero_add, Nat.mul_zero, not_true_eq_false, not_false_eq_true, false_implies, true_implies, z36, y1]
      first | exact hI0 | exact ⟨fun z => absurd rfl z, fun _ => hI0⟩
  · subst q
    rw [k1]
    rcases k36 with ⟨z36, z37, z38, z39⟩ | ⟨z36, z37, -, z38, -⟩
    · rw [z36]
      refine ⟨fun _ => ?_, fun z => absurd rfl z⟩
      apply js_M_now
      refine ⟨fun z => absurd z (by decide), fun z => absurd z (by decide), fun z => absurd z (by decide), fun z => absurd z (by decide), fun z => absurd z (by decide), fun z => absurd z (by decide), fun z => absurd z (by decide), fun _ => ?_, fun z => absurd z (by decide), fun z => absurd z (by decide), trivial⟩
      simp (disch := first | omega | decide) only [jaU_eq, jaU_U, nI_add, pk_mul, jaIx_nI, vp_inT, true_and, and_true, ↓jaO0, ↓jaO1, nI_z, nI_z2, nI_z3, nI_z4, nI_z5, nI_lt', nI_le', nI_eq', jaUI_at, jaPt_eq, jaPt_ne, jaUI_o, jaUI_2, jaUL_at, jaUL_o, jaUL_1, jaB_z, jaB_1, ↓jaB_01, Classical.not_not, and_self, true_or, or_true, nI_11, Nat.reduceEqDiff, Nat.reduceAdd, Nat.reduceMul, Nat.add_zero, Nat.zero_add, Nat.mul_zero, not_true_eq_false, not_false_eq_true, false_implies, true_implies, z38]
      exact ⟨by decide, hI0⟩
    · rw [z36]
      refine ⟨fun z => absurd z (by decide), fun _ => ?_⟩
      obtain ⟨⟨y1, y2, y3⟩, -, -⟩ := k2 z36
      apply js_M_now
      refine ⟨fun z => absurd z (by decide), fun z => absurd z (by decide), fun z => absurd z (by decide), fun z => absurd z (by decide), fun z => absurd z (by decide), fun z => absurd z (by decide), fun z => absurd z (by decide), fun _ => ?_, fun z => absurd z (by decide), fun z => absurd z (by decide), trivial⟩
      simp (disch := first | omega | decide) only [jaU_eq, jaU_U, nI_add, pk_mul, jaIx_nI, vp_inT, true_and, and_true, ↓jaO0, ↓jaO1, nI_z, nI_z2, nI_z3, nI_z4, nI_z5, nI_lt', nI_le', nI_eq', jaUI_at, jaPt_eq, jaPt_ne, jaUI_o, jaUI_2, jaUL_at, jaUL_o, jaUL_1, jaB_z, jaB_1, ↓jaB_01, Classical.not_not, and_self, true_or, or_true, nI_11, Nat.reduceEqDiff, Nat.reduceAdd, Nat.reduceMul, Nat.add_zero, Nat.zero_add, Nat.mul_zero, not_true_eq_false, not_false_eq_true, false_implies, true_implies, y2]
      exact hI0
  · subst q
    rw [k1]
    rcases k36 with ⟨z36, z37, z38, z39⟩ | ⟨z36, z37, -, z38, -⟩
    · rw [z36]
      refine ⟨fun _ => ?_, fun z => absurd rfl z⟩
      apply js_M_now
      refine ⟨fun z => absurd z (by decide), fun z => absurd z (by decide), fun z => absurd z (by decide), fun z => absurd z (by decide), fun z => absurd z (by decide), fun z => absurd z (by decide), fun z => absurd z (by decide), fun z => absurd z (by decide), fun _ => ?_, fun z => absurd z (by decide), trivial⟩
      simp (disch := first | omega | decide) only [jaU_eq, jaU_U, nI_add, pk_mul, jaIx_nI, vp_inT, true_and, and_true, ↓jaO0, ↓jaO1, nI_z, nI_z2, nI_z3, nI_z4, nI_z5, nI_lt', nI_le', nI_eq', jaUI_at, jaPt_eq, jaPt_ne, jaUI_o, jaUI_2, jaUL_at, jaUL_o, jaUL_1, jaB_z, jaB_1, ↓jaB_01, Classical.not_not, and_self, true_or, or_true, nI_11, Nat.reduceEqDiff, Nat.reduceAdd, Nat.reduceMul, Nat.add_zero, Nat.zero_add, Nat.mul_zero, not_true_eq_false, not_false_eq_true, false_implies, true_implies, z39]
      exact hI0
    · rw [z36]
      refine ⟨fun z => absurd z (by decide), fun _ => ?_⟩
      obtain ⟨⟨y1, y2, y3⟩, -, -⟩ := k2 z36
      apply js_M_now
      refine ⟨fun z => absurd z (by decide), fun z => absurd z (by decide), fun z => absurd z (by decide), fun z => absurd z (by decide), fun z => absurd z (by decide), fun z => absurd z (by decide), fun z => absurd z (by decide), fun z => absurd z (by decide), fun _ => ?_, fun z => absurd z (by decide), trivial⟩
      simp (disch := first | omega | decide) only [jaU_eq, jaU_U, nI_add, pk_mul, jaIx_nI, vp_inT, true_and, and_true, ↓jaO0, ↓jaO1, nI_z, nI_z2, nI_z3, nI_z4, nI_z5, nI_lt', nI_le', nI_eq', jaUI_at, jaPt_eq, jaPt_ne, jaUI_o, jaUI_2, jaUL_at, jaUL_o, jaUL_1, jaB_z, jaB_1, ↓jaB_01, Classical.not_not, and_self, true_or, or_true, nI_11, Nat.reduceEqDiff, Nat.reduceAdd, Nat.reduceMul, Nat.add_zero, Nat.zero_add, Nat.mul_zero, not_true_eq_false, not_false_eq_true, false_implies, true_implies, y3]
      exact hI0
  · subst q
    apply js_M_now
    refine ⟨fun z => absurd z (by decide), fun z => absurd z (by decide), fun z => absurd z (by decide), fun z => absurd z (by decide), fun z => absurd z (by decide), fun z => absurd z (by decide), fun z => absurd z (by decide), fun z => absurd z (by decide), fun z => absurd z (by decide), fun _ => ?_, trivial⟩
    simp (disch := first | omega | decide) only [jaU_eq, jaU_U, nI_add, pk_mul, jaIx_nI, vp_inT, true_and, and_true, ↓jaO0, ↓jaO1, nI_z, nI_z2, nI_z3, nI_z4, nI_z5, nI_lt', nI_le', nI_eq', jaUI_at, jaPt_eq, jaPt_ne, jaUI_o, jaUI_2, jaUL_at, jaUL_o, jaUL_1, jaB_z, jaB_1, ↓jaB_01, Classical.not_not, and_self, true_or, or_true, nI_11, Nat.reduceEqDiff, Nat.reduceAdd, Nat.reduceMul, Nat.add_zero, Nat.zero_add, Nat.mul_zero, not_true_eq_false, not_false_eq_true, false_implies, true_implies, k3]
    exact hI0
theorem jf_count {x : Int32} : jFc jy_A_count jy_M_count [.inl x] := by
  intro σ hI
  have hI0 := jI_0 (v := nI 0) hI
  obtain ⟨w0, w1, w2, w3, w4⟩ := hI.R.w.1
  obtain ⟨⟨n, n1, n2, n3⟩, -⟩ := hI.1
  simp only [] at w0 w1 w2 w3 w4
  apply js_A_count
  refine ⟨fun q => ?_, fun q => ?_, fun q => ?_, fun q => ?_, fun q => ?_, fun q => ?_, fun q => ?_, trivial⟩
  · apply js_M_count
    refine ⟨fun _ => sp_M_isIn (by omega) ?_, fun z => absurd q (by rw [z]; decide)⟩
    rw [jaB_f (fun z => ?_)]
    · exact ⟨fun _ => ⟨rfl, hI0⟩, fun z => absurd rfl z⟩
    · have h1 : ¬ x.toInt < 0 := fun y => z.1 (by rw [Int32.lt_iff_toInt_lt]; exact y)
      have h2 : ¬ 4 < x.toInt := fun y => z.2 (by rw [Int32.lt_iff_toInt_lt]; exact y)
      omega
  · subst q
    apply js_M_count
    refine ⟨fun _ => sp_M_isIn (by omega) ?_, fun z => absurd z (by decide)⟩
    rw [jaB_t ⟨by decide, by decide⟩]
    refine ⟨fun z => absurd z (by decide), fun _ => ?_⟩
    simp (disch := first | omega | decide) only [jaU_eq, jaU_U, nI_add, pk_mul, jaIx_nI, vp_inT, true_and, and_true, ↓jaO0, ↓jaO1, nI_z, nI_z2, nI_z3, nI_z4, nI_z5, nI_lt', nI_le', nI_eq', jaUI_at, jaPt_eq, jaPt_ne, jaUI_o, jaUI_2, jaUL_at, jaUL_o, jaUL_1, jaB_z, jaB_1, ↓jaB_01, Classical.not_not, and_self, true_or, or_true, nI_11, Nat.reduceEqDiff, Nat.reduceAdd, Nat.reduceMul, Nat.add_zero, Nat.zero_add, Nat.mul_zero, not_true_eq_false, not_false_eq_true, false_implies, true_implies, w0]
    exact hI0
  · subst q
    apply js_M_count
    refine ⟨fun _ => sp_M_isIn (by omega) ?_, fun z => absurd z (by decide)⟩
    rw [jaB_t ⟨by decide, by decide⟩]
    refine ⟨fun z => absurd z (by decide), fun _ => ?_⟩
    simp (disch := first | omega | decide) only [jaU_eq, jaU_U, nI_add, pk_mul, jaIx_nI, vp_inT, true_and, and_true, ↓jaO0, ↓jaO1, nI_z, nI_z2, nI_z3, nI_z4, nI_z5, nI_lt', nI_le', nI_eq', jaUI_at, jaPt_eq, jaPt_ne, jaUI_o, jaUI_2, jaUL_at, jaUL_o, jaUL_1, jaB_z, jaB_1, ↓jaB_01, Classical.not_not, and_self, true_or, or_true, nI_11, Nat.reduceEqDiff, Nat.reduceAdd, Nat.reduceMul, Nat.add_zero, Nat.zero_add, Nat.mul_zero, not_true_eq_false, not_false_eq_true, false_implies, true_implies, w1]
    exact hI0
  · subst q
    apply js_M_count
    refine ⟨fun _ => sp_M_isIn (by omega) ?_, fun z => absurd z (by decide)⟩
    rw [jaB_t ⟨by decide, by decide⟩]
    refine ⟨fun z => absurd z (by decide), fun _ => ?_⟩
    simp (disch := first | omega | decide) only [jaU_eq, jaU_U, nI_add, pk_mul, jaIx_nI, vp_inT, true_and, and_true, ↓jaO0, ↓jaO1, nI_z, nI_z2, nI_z3, nI_z4, nI_z5, nI_lt', nI_le', nI_eq', jaUI_at, jaPt_eq, jaPt_ne, jaUI_o, jaUI_2, jaUL_at, jaUL_o, jaUL_1, jaB_z, jaB_1, ↓jaB_01, Classical.not_not, and_self, true_or, or_true, nI_11, Nat.reduceEqDiff, Nat.reduceAdd, Nat.reduceMul, Nat.add_zero, Nat.zero_add, Nat.mul_zero, not_true_eq_false, not_false_eq_true, false_implies, true_implies, w2]
    exact hI0
  · subst q
    apply js_M_count
    refine ⟨fun _ => sp_M_isIn (by omega) ?_, fun z => absurd z (by decide)⟩
    rw [jaB_t ⟨by decide, by decide⟩]
    refine ⟨fun z => absurd z (by decide), fun _ => ?_⟩
    simp (disch := first | omega | decide) only [jaU_eq, jaU_U, nI_add, pk_mul, jaIx_nI, vp_inT, true_and, and_true, ↓jaO0, ↓jaO1, nI_z, nI_z2, nI_z3, nI_z4, nI_z5, nI_lt', nI_le', nI_eq', jaUI_at, jaPt_eq, jaPt_ne, jaUI_o, jaUI_2, jaUL_at, jaUL_o, jaUL_1, jaB_z, jaB_1, ↓jaB_01, Classical.not_not, and_self, true_or, or_true, nI_11, Nat.reduceEqDiff, Nat.reduceAdd, Nat.reduceMul, Nat.add_zero, Nat.zero_add, Nat.mul_zero, not_true_eq_false, not_false_eq_true, false_implies, true_implies, w3]
    exact hI0
  · subst q
    apply js_M_count
    refine ⟨fun _ => sp_M_isIn (by omega) ?_, fun z => absurd z (by decide)⟩
    rw [jaB_t ⟨by decide, by decide⟩]
    refine ⟨fun z => absurd z (by decide), fun _ => ?_⟩
    simp (disch := first | omega | decide) only [jaU_eq, jaU_U, nI_add, pk_mul, jaIx_nI, vp_inT, true_and, and_true, ↓jaO0, ↓jaO1, nI_z, nI_z2, nI_z3, nI_z4, nI_z5, nI_lt', nI_le', nI_eq', jaUI_at, jaPt_eq, jaPt_ne, jaUI_o, jaUI_2, jaUL_at, jaUL_o, jaUL_1, jaB_z, jaB_1, ↓jaB_01, Classical.not_not, and_self, true_or, or_true, nI_11, Nat.reduceEqDiff, Nat.reduceAdd, Nat.reduceMul, Nat.add_zero, Nat.zero_add, Nat.mul_zero, not_true_eq_false, not_false_eq_true, false_implies, true_implies, w4]
    exact hI0
  · subst q
    apply js_M_count
    refine ⟨fun z => absurd rfl z, fun _ => ?_⟩
    simp (disch := first | omega | decide) only [jaU_eq, jaU_U, nI_add, pk_mul, jaIx_nI, vp_inT, true_and, and_true, ↓jaO0, ↓jaO1, nI_z, nI_z2, nI_z3, nI_z4, nI_z5, nI_lt', nI_le', nI_eq', jaUI_at, jaPt_eq, jaPt_ne, jaUI_o, jaUI_2, jaUL_at, jaUL_o, jaUL_1, jaB_z, jaB_1, ↓jaB_01, Classical.not_not, and_self, true_or, or_true, nI_11, Nat.reduceEqDiff, Nat.reduceAdd, Nat.reduceMul, Nat.add_zero, Nat.zero_add, Nat.mul_zero, not_true_eq_false, not_false_eq_true, false_implies, true_implies, n2, n3]
    exact hI0
theorem jf_told {x : Int32} : jFc jy_A_told jy_M_told [.inl x] := by
  intro σ hI
  have hI0 := jI_0 (v := nI 0) hI
  have hb := hI.2.2.2.2.2.1
  apply js_A_told
  rcases hb with ⟨a, b⟩ | ⟨a, b, c⟩
  · rw [a]
    refine ⟨fun _ => ?_, fun z => absurd rfl z⟩
    apply js_M_told
    simp (disch := first | omega | decide) only [jaU_eq, jaU_U, nI_add, pk_mul, jaIx_nI, vp_inT, true_and, and_true, ↓jaO0, ↓jaO1, nI_z, nI_z2, nI_z3, nI_z4, nI_z5, nI_lt', nI_le', nI_eq', jaUI_at, jaPt_eq, jaPt_ne, jaUI_o, jaUI_2, jaUL_at, jaUL_o, jaUL_1, jaB_z, jaB_1, ↓jaB_01, Classical.not_not, and_self, true_or, or_true, nI_11, Nat.reduceEqDiff, Nat.reduceAdd, Nat.reduceMul, Nat.add_zero, Nat.zero_add, Nat.mul_zero, not_true_eq_false, not_false_eq_true, false_implies, true_implies, b]
    first | exact hI0 | exact ⟨fun _ => hI0, fun z => absurd rfl z⟩
  · rw [a]
    have e : (¬ x < nI 0 ∧ ¬ nI 3 < x) ↔ ∃ q, q < 4 ∧ x = nI q := by
      have := jxIn (N := 4) (by decide) (x := x)
      rw [nI_sub (by decide)] at this
      exact this
    refine ⟨fun z => absurd z (by decide), fun _ => ?_⟩
    by_cases z : ∃ q, q < 4 ∧ x = nI q
    · obtain ⟨q, h1, rfl⟩ := z
      simp (disch := first | omega | decide) only [jaU_eq, jaU_U, nI_add, pk_mul, jaIx_nI, vp_inT, true_and, and_true, ↓jaO0, ↓jaO1, nI_z, nI_z2, nI_z3, nI_z4, nI_z5, nI_lt', nI_le', nI_eq', jaUI_at, jaPt_eq, jaPt_ne, jaUI_o, jaUI_2, jaUL_at, jaUL_o, jaUL_1, jaB_z, jaB_1, ↓jaB_01, Classical.not_not, and_self, true_or, or_true, nI_11, Nat.reduceEqDiff, Nat.reduceAdd, Nat.reduceMul, Nat.add_zero, Nat.zero_add, Nat.mul_zero, not_true_eq_false, not_false_eq_true, false_implies, true_implies]
      refine ⟨fun y => absurd y (by omega), fun _ => ?_⟩
      apply js_M_told
      simp (disch := first | omega | decide) only [jaU_eq, jaU_U, nI_add, pk_mul, jaIx_nI, vp_inT, true_and, and_true, ↓jaO0, ↓jaO1, nI_z, nI_z2, nI_z3, nI_z4, nI_z5, nI_lt', nI_le', nI_eq', jaUI_at, jaPt_eq, jaPt_ne, jaUI_o, jaUI_2, jaUL_at, jaUL_o, jaUL_1, jaB_z, jaB_1, ↓jaB_01, Classical.not_not, and_self, true_or, or_true, nI_11, Nat.reduceEqDiff, Nat.reduceAdd, Nat.reduceMul, Nat.add_zero, Nat.zero_add, Nat.mul_zero, not_true_eq_false, not_false_eq_true, false_implies, true_implies, b]
      refine sp_M_isIn (by omega) ?_
      rw [jaB_c e, jaB_t ⟨q, h1, rfl⟩]
      simp (disch := first | omega | decide) only [jaU_eq, jaU_U, nI_add, pk_mul, jaIx_nI, vp_inT, true_and, and_true, ↓jaO0, ↓jaO1, nI_z, nI_z2, nI_z3, nI_z4, nI_z5, nI_lt', nI_le', nI_eq', jaUI_at, jaPt_eq, jaPt_ne, jaUI_o, jaUI_2, jaUL_at, jaUL_o, jaUL_1, jaB_z, jaB_1, ↓jaB_01, Classical.not_not, and_self, true_or, or_true, nI_11, Nat.reduceEqDiff, Nat.reduceAdd, Nat.reduceMul, Nat.add_zero, Nat.zero_add, Nat.mul_zero, not_true_eq_false, not_false_eq_true, false_implies, true_implies]
      exact ⟨c q h1, hI0⟩
    · have nz : ¬ (¬ x < 0 ∧ ¬ nI 4 ≤ x) := fun y => z ((jxInC (N := 4) (by decide) (x := x)).mp y)
      have M : jaDe 12 jy_M_told [jaMo, .inl x] σ (jaKi fun b σ2 => (-1 : Int32) = b ∧ jI σ2) := by
        apply js_M_told
        simp (disch := first | omega | decide) only [jaU_eq, jaU_U, nI_add, pk_mul, jaIx_nI, vp_inT, true_and, and_true, ↓jaO0, ↓jaO1, nI_z, nI_z2, nI_z3, nI_z4, nI_z5, nI_lt', nI_le', nI_eq', jaUI_at, jaPt_eq, jaPt_ne, jaUI_o, jaUI_2, jaUL_at, jaUL_o, jaUL_1, jaB_z, jaB_1, ↓jaB_01, Classical.not_not, and_self, true_or, or_true, nI_11, Nat.reduceEqDiff, Nat.reduceAdd, Nat.reduceMul, Nat.add_zero, Nat.zero_add, Nat.mul_zero, not_true_eq_false, not_false_eq_true, false_implies, true_implies, b]
        refine sp_M_isIn (by omega) ?_
        rw [jaB_c e, jaB_f z]
        first | exact ⟨fun _ => ⟨rfl, hI0⟩, fun y => absurd rfl y⟩ | exact ⟨fun _ => hI0, fun y => absurd rfl y⟩
      exact ⟨fun _ => M, fun y1 => ⟨fun _ => M, fun y2 => absurd ⟨y1, y2⟩ nz⟩⟩
theorem jf_ask : jFc jy_A_ask jy_M_ask [] := by
  intro σ hI
  have hI0 := jI_0 (v := nI 0) hI
  apply js_A_ask
  apply js_M_ask
  rcases hI.2.2.2.2.2.2.1.2 with ⟨a, b⟩ | ⟨a, b⟩
  · simp (disch := first | omega | decide) only [jaU_eq, jaU_U, nI_add, pk_mul, jaIx_nI, vp_inT, true_and, and_true, ↓jaO0, ↓jaO1, nI_z, nI_z2, nI_z3, nI_z4, nI_z5, nI_lt', nI_le', nI_eq', jaUI_at, jaPt_eq, jaPt_ne, jaUI_o, jaUI_2, jaUL_at, jaUL_o, jaUL_1, jaB_z, jaB_1, ↓jaB_01, Classical.not_not, and_self, true_or, or_true, nI_11, Nat.reduceEqDiff, Nat.reduceAdd, Nat.reduceMul, Nat.add_zero, Nat.zero_add, Nat.mul_zero, not_true_eq_false, not_false_eq_true, false_implies, true_implies, a, b]
    first | exact hI0 | exact ⟨fun _ => hI0, fun z => absurd rfl z⟩
  · simp (disch := first | omega | decide) only [jaU_eq, jaU_U, nI_add, pk_mul, jaIx_nI, vp_inT, true_and, and_true, ↓jaO0, ↓jaO1, nI_z, nI_z2, nI_z3, nI_z4, nI_z5, nI_lt', nI_le', nI_eq', jaUI_at, jaPt_eq, jaPt_ne, jaUI_o, jaUI_2, jaUL_at, jaUL_o, jaUL_1, jaB_z, jaB_1, ↓jaB_01, Classical.not_not, and_self, true_or, or_true, nI_11, Nat.reduceEqDiff, Nat.reduceAdd, Nat.reduceMul, Nat.add_zero, Nat.zero_add, Nat.mul_zero, not_true_eq_false, not_false_eq_true, false_implies, true_implies, a, b]
    first | exact hI0 | exact ⟨fun z => absurd z (by decide), fun _ => hI0⟩
theorem jf_soAt {x : Int32} : jFc jy_A_soAt jy_M_soAt [.inl x] := by
  intro σ hI
  have hI0 := jI_0 (v := nI 0) hI
  obtain ⟨L, l1, l2, l3, l4⟩ := hI.2.2.2.2.2.2.1.1
  apply js_A_soAt
  rw [l2]
  by_cases z : ∃ q, q < L.length ∧ x = nI q
  · obtain ⟨q, h1, rfl⟩ := z
    obtain ⟨y, hy⟩ := jfGet L q h1
    obtain ⟨a, b⟩ := l4 q y hy
    have l1 : (σ 20).1 70 0 37 = nI L.length := l1.resolve_right (fun v => by rw [v.1] at h1; exact absurd h1 (by simp))
    simp (disch := first | omega | decide) only [jaU_eq, jaU_U, nI_add, pk_mul, jaIx_nI, vp_inT, true_and, and_true, ↓jaO0, ↓jaO1, nI_z, nI_z2, nI_z3, nI_z4, nI_z5, nI_lt', nI_le', nI_eq', jaUI_at, jaPt_eq, jaPt_ne, jaUI_o, jaUI_2, jaUL_at, jaUL_o, jaUL_1, jaB_z, jaB_1, ↓jaB_01, Classical.not_not, and_self, true_or, or_true, nI_11, Nat.reduceEqDiff, Nat.reduceAdd, Nat.reduceMul, Nat.add_zero, Nat.zero_add, Nat.mul_zero, not_true_eq_false, not_false_eq_true, false_implies, true_implies, a]
    refine ⟨fun v => absurd v (by omega), fun _ => ?_⟩
    apply js_M_soAt
    simp (disch := first | omega | decide) only [jaU_eq, jaU_U, nI_add, pk_mul, jaIx_nI, vp_inT, true_and, and_true, ↓jaO0, ↓jaO1, nI_z, nI_z2, nI_z3, nI_z4, nI_z5, nI_lt', nI_le', nI_eq', jaUI_at, jaPt_eq, jaPt_ne, jaUI_o, jaUI_2, jaUL_at, jaUL_o, jaUL_1, jaB_z, jaB_1, ↓jaB_01, Classical.not_not, and_self, true_or, or_true, nI_11, Nat.reduceEqDiff, Nat.reduceAdd, Nat.reduceMul, Nat.add_zero, Nat.zero_add, Nat.mul_zero, not_true_eq_false, not_false_eq_true, false_implies, true_implies, l1]
    refine sp_M_isIn (by omega) ?_
    rw [jaB_c (jxIn (by omega)), jaB_t ⟨q, h1, rfl⟩]
    simp (disch := first | omega | decide) only [jaU_eq, jaU_U, nI_add, pk_mul, jaIx_nI, vp_inT, true_and, and_true, ↓jaO0, ↓jaO1, nI_z, nI_z2, nI_z3, nI_z4, nI_z5, nI_lt', nI_le', nI_eq', jaUI_at, jaPt_eq, jaPt_ne, jaUI_o, jaUI_2, jaUL_at, jaUL_o, jaUL_1, jaB_z, jaB_1, ↓jaB_01, Classical.not_not, and_self, true_or, or_true, nI_11, Nat.reduceEqDiff, Nat.reduceAdd, Nat.reduceMul, Nat.add_zero, Nat.zero_add, Nat.mul_zero, not_true_eq_false, not_false_eq_true, false_implies, true_implies, b]
    first | exact hI0 | exact ⟨fun v => absurd v (by decide), fun _ => hI0⟩
  · have nz : ¬ (¬ x < 0 ∧ ¬ nI L.length ≤ x) := fun y => z ((jxInC (N := L.length) (by omega) (x := x)).mp y)
    have M : jaDe 12 jy_M_soAt [jaMo, .inl x] σ (jaKi fun b σ2 => (-1 : Int32) = b ∧ jI σ2) := by
      apply js_M_soAt
      refine sp_M_isIn (by omega) ?_
      rw [jaB_f]
      · exact ⟨fun _ => ⟨rfl, hI0⟩, fun y => absurd rfl y⟩
      · rcases l1 with l1 | ⟨l0, l1⟩
        · simp (disch := first | omega | decide) only [jaU_eq, jaU_U, nI_add, pk_mul, jaIx_nI, vp_inT, true_and, and_true, ↓jaO0, ↓jaO1, nI_z, nI_z2, nI_z3, nI_z4, nI_z5, nI_lt', nI_le', nI_eq', jaUI_at, jaPt_eq, jaPt_ne, jaUI_o, jaUI_2, jaUL_at, jaUL_o, jaUL_1, jaB_z, jaB_1, ↓jaB_01, Classical.not_not, and_self, true_or, or_true, nI_11, Nat.reduceEqDiff, Nat.reduceAdd, Nat.reduceMul, Nat.add_zero, Nat.zero_add, Nat.mul_zero, not_true_eq_false, not_false_eq_true, false_implies, true_implies, l1]
          rw [jxIn (by omega)]
          exact z
        · simp (disch := first | omega | decide) only [jaU_eq, jaU_U, nI_add, pk_mul, jaIx_nI, vp_inT, true_and, and_true, ↓jaO0, ↓jaO1, nI_z, nI_z2, nI_z3, nI_z4, nI_z5, nI_lt', nI_le', nI_eq', jaUI_at, jaPt_eq, jaPt_ne, jaUI_o, jaUI_2, jaUL_at, jaUL_o, jaUL_1, jaB_z, jaB_1, ↓jaB_01, Classical.not_not, and_self, true_or, or_true, nI_11, Nat.reduceEqDiff, Nat.reduceAdd, Nat.reduceMul, Nat.add_zero, Nat.zero_add, Nat.mul_zero, not_true_eq_false, not_false_eq_true, false_implies, true_implies, l1]
          intro v
          have h1 : ¬ x.toInt < 0 := fun y => v.1 (by rw [Int32.lt_iff_toInt_lt]; exact y)
          have h2 : ¬ (-2 : Int) < x.toInt := fun y => v.2 (by rw [Int32.lt_iff_toInt_lt, show ((-1 : Int32) - nI 1).toInt = -2 by decide]; exact y)
          omega
    exact ⟨fun _ => M, fun y1 => ⟨fun _ => M, fun y2 => absurd ⟨y1, y2⟩ nz⟩⟩
theorem jf_said {x : Int32} : jFc jy_A_said jy_M_said [.inl x] := by
  intro σ hI
  obtain ⟨w, w1, w2, w3⟩ := hI.2.2.2.1
  have hW := hI.W
  have hsl : (σ 20).1 72 0 525 = nI 0 ∨ ∃ l, 1 ≤ l.length ∧ jSl ((σ 20).1 72 0) l ∧ True := by
    rcases w3 with ⟨a, b⟩ | ⟨l, l1, l39, e525, t1, tT, tr, tok, tP⟩
    · exact Or.inl b
    · exact Or.inr ⟨l, l1, ⟨e525, tr, l39, tok, tP⟩, trivial⟩
  have un : ∀ S', jaFr [90] [0] (σ 20) S' → jI (jaU σ 20 S') := fun S' f => jI_M hI f (by decide) (by decide)
  refine sp_A_said (by omega) w1 w2 hI.R hW w3 (fun h0 => ?_) (fun l l1 hl hx => ?_)
  · refine jaAk (k := 20) (B := σ 20) (P := fun τ => jaDe 12 jy_M_said [jaMo, .inl x] τ (jaKi fun b σ2 => (-1 : Int32) = b ∧ jI σ2)) rfl ?_
    refine sp_M_said (by omega) rfl rfl hW (fun _ S' f => ⟨rfl, un S' f⟩) (fun l l1 hl _ hx S' f => ?_) hsl
    rcases h0 with z | z
    · have := hl.1
      rw [z, nI_eq' (by omega) (by have := hl.2.2.1; omega)] at this
      omega
    · exact absurd hx z
  · refine jaAk (k := 20) (B := σ 20) (P := fun τ => jaDe 12 jy_M_said [jaMo, .inl x] τ (jaKi fun b σ2 => jgAn (jgIs ((σ 20).1 72 0) ((σ 20).1 76 0) l) x (jz ((σ 20).1 72 0) 34) 0 0 = b ∧ jI σ2)) rfl ?_
    refine sp_M_said (Pl := fun l' => l' = l) (by omega) rfl rfl hW (fun h0 S' f => ?_) (fun l' l1' hl' el hx' S' f => ⟨?_, un S' f⟩) (Or.inr ⟨l, l1, hl, rfl⟩)
    · rcases h0 with z | z
      · have := hl.1
        rw [z, nI_eq' (by omega) (by have := hl.2.2.1; omega)] at this
        omega
      · exact absurd hx z
    · rw [el]
end
