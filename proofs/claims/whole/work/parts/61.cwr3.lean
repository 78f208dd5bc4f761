section
/-! the class: a WORLD read whole, the end -/
theorem sp_Wo_addUntold {D : Nat} (hD : 1 ≤ D) {kk : jaT → Prop} {τ : jaT} {w : jwS} {k : Nat} (hc : jcW (τ k) w) (hw : jwW w) (hd : jwD w) (h : ∀ τ', jRw (τ' k) (jwUn w.1) → (τ' k).2 = (τ k).2 → (∀ q, q ≠ k → τ' q = τ q) → kk τ') : jaDe D jy_Wo_addUntold [jcWo k] τ (jaKv kk) := by
  obtain ⟨D, rfl, hD⟩ := jaSuc hD
  obtain ⟨⟨a0, a1, a2, a3, a4⟩, b1, b2, b3, b4⟩ := hc
  obtain ⟨w0, w1, w2, w3, w4, w5, w6, -⟩ := hw
  obtain ⟨d1, d2, d3⟩ := hd
  have e2 : (τ k).1 30 0 2 = nI (jz w.1 2) := a2.trans w2.1
  have n3 : ¬ w.1 3 = -1 := by rw [w3.1, nI_m1 (by omega)]; exact fun z => z
  have n4 : ¬ w.1 4 = -1 := by rw [w4.1, nI_m1 (by omega)]; exact fun z => z
  -- 3 and 4
  have L : ∀ T1 : jaS, T1.1 30 0 0 = w.1 0 → T1.1 30 0 1 = w.1 1 → T1.1 30 0 3 = (τ k).1 30 0 3 → T1.1 30 0 4 = (τ k).1 30 0 4 → (∀ S', S'.1 30 0 0 = w.1 0 → S'.1 30 0 1 = w.1 1 → S'.1 30 0 2 = T1.1 30 0 2 → S'.1 30 0 3 = w.1 3 → S'.1 30 0 4 = w.1 4 → (∀ o, o ≠ 30 → S'.1 o = T1.1 o) → S'.2 = T1.2 → kk (jaU τ k S')) →
      (¬ T1.1 30 0 3 = (-1) → (¬ T1.1 30 0 4 = (-1) → kk (jaU τ k T1)) ∧ (T1.1 30 0 4 = (-1) → kk (jaU τ k (jaUI T1 30 0 4 (nI 2))))) ∧
      (T1.1 30 0 3 = (-1) → (¬ (jaUI T1 30 0 3 (nI 5)).1 30 0 4 = (-1) → kk (jaU τ k (jaUI T1 30 0 3 (nI 5)))) ∧ ((jaUI T1 30 0 3 (nI 5)).1 30 0 4 = (-1) → kk (jaU τ k (jaUI (jaUI T1 30 0 3 (nI 5)) 30 0 4 (nI 2))))) := by
    intro T1 t0 t1 t3 t4 K
    rw [a3] at t3
    rw [a4] at t4
    have c3 : ¬ T1.1 30 0 3 = -1 → T1.1 30 0 3 = w.1 3 := fun z => by
      rw [t3]
      exact jaIf1_t (Classical.not_not.mp (fun y => z (t3.trans (jaIf1_f y))))
    have c4 : ¬ T1.1 30 0 4 = -1 → T1.1 30 0 4 = w.1 4 := fun z => by
      rw [t4]
      exact jaIf1_t (Classical.not_not.mp (fun y => z (t4.trans (jaIf1_f y))))
    have m3 : T1.1 30 0 3 = -1 → w.1 3 = nI 5 := fun z => d1 (fun y => n3 (by rw [t3, jaIf1_t y] at z; exact z))
    have m4 : T1.1 30 0 4 = -1 → w.1 4 = nI 2 := fun z => d2 (fun y => n4 (by rw [t4, jaIf1_t y] at z; exact z))
    have x4 : (jaUI T1 30 0 3 (nI 5)).1 30 0 4 = T1.1 30 0 4 := by rw [jaUI_at, jaPt_ne (by decide)]
    rw [x4]
    refine ⟨fun z => ⟨fun y => ?_, fun y => ?_⟩, fun z => ⟨fun y => ?_, fun y => ?_⟩⟩
    · exact K T1 t0 t1 rfl (c3 z) (c4 y) (fun _ _ => rfl) rfl
    · refine K _ ?_ ?_ ?_ ?_ ?_ (fun o ho => jaUI_o ho) rfl
      · simp (disch := first | omega | decide) only [jaU_eq, jaU_U, nI_add, pk_mul, jaIx_nI, vp_inT, true_and, and_true, ↓jaO0, ↓jaO1, nI_z, nI_z2, nI_z3, nI_z4, nI_z5, nI_lt', nI_le', nI_eq', jaUI_at, jaPt_eq, jaPt_ne, jaUI_o, jaUI_2, jaUL_at, jaUL_o, jaUL_1, jaB_z, jaB_1, ↓jaB_01, Classical.not_not, and_self, true_or, or_true, nI_11, Nat.reduceEqDiff, Nat.reduceAdd, Nat.reduceMul, Nat.add_zero, Nat.zero_add, Nat.mul_zero, not_true_eq_false, not_false_eq_true, false_implies, true_implies, t0]
      · simp (disch := first | omega | decide) only [jaU_eq, jaU_U, nI_add, pk_mul, jaIx_nI, vp_inT, true_and, and_true, ↓jaO0, ↓jaO1, nI_z, nI_z2, nI_z3, nI_z4, nI_z5, nI_lt', nI_le', nI_eq', jaUI_at, jaPt_eq, jaPt_ne, jaUI_o, jaUI_2, jaUL_at, jaUL_o, jaUL_1, jaB_z, jaB_1, ↓jaB_01, Classical.not_not, and_self, true_or, or_true, nI_11, Nat.reduceEqDiff, Nat.reduceAdd, Nat.reduceMul, Nat.add_zero, Nat.zero_add, Nat.mul_zero, not_true_eq_false, not_false_eq_true, false_implies, true_implies, t1]
      · simp (disch := first | omega | decide) only [jaU_eq, jaU_U, nI_add, pk_mul, jaIx_nI, vp_inT, true_and, and_true, ↓jaO0, ↓jaO1, nI_z, nI_z2, nI_z3, nI_z4, nI_z5, nI_lt', nI_le', nI_eq', jaUI_at, jaPt_eq, jaPt_ne, jaUI_o, jaUI_2, jaUL_at, jaUL_o, jaUL_1, jaB_z, jaB_1, ↓jaB_01, Classical.not_not, and_self, true_or, or_true, nI_11, Nat.reduceEqDiff, Nat.reduceAdd, Nat.reduceMul, Nat.add_zero, Nat.zero_add, Nat.mul_zero, not_true_eq_false, not_false_eq_true, false_implies, true_implies]
      · simp (disch := first | omega | decide) only [jaU_eq, jaU_U, nI_add, pk_mul, jaIx_nI, vp_inT, true_and, and_true, ↓jaO0, ↓jaO1, nI_z, nI_z2, nI_z3, nI_z4, nI_z5, nI_lt', nI_le', nI_eq', jaUI_at, jaPt_eq, jaPt_ne, jaUI_o, jaUI_2, jaUL_at, jaUL_o, jaUL_1, jaB_z, jaB_1, ↓jaB_01, Classical.not_not, and_self, true_or, or_true, nI_11, Nat.reduceEqDiff, Nat.reduceAdd, Nat.reduceMul, Nat.add_zero, Nat.zero_add, Nat.mul_zero, not_true_eq_false, not_false_eq_true, false_implies, true_implies, c3 z]
      · simp (disch := first | omega | decide) only [jaU_eq, jaU_U, nI_add, pk_mul, jaIx_nI, vp_inT, true_and, and_true, ↓jaO0, ↓jaO1, nI_z, nI_z2, nI_z3, nI_z4, nI_z5, nI_lt', nI_le', nI_eq', jaUI_at, jaPt_eq, jaPt_ne, jaUI_o, jaUI_2, jaUL_at, jaUL_o, jaUL_1, jaB_z, jaB_1, ↓jaB_01, Classical.not_not, and_self, true_or, or_true, nI_11, Nat.reduceEqDiff, Nat.reduceAdd, Nat.reduceMul, Nat.add_zero, Nat.zero_add, Nat.mul_zero, not_true_eq_false, not_false_eq_true, false_implies, true_implies, m4 y]
    · refine K _ ?_ ?_ ?_ ?_ ?_ (fun o ho => jaUI_o ho) rfl
      · simp (disch := first | omega | decide) only [jaU_eq, jaU_U, nI_add, pk_mul, jaIx_nI, vp_inT, true_and, and_true, ↓jaO0, ↓jaO1, nI_z, nI_z2, nI_z3, nI_z4, nI_z5, nI_lt', nI_le', nI_eq', jaUI_at, jaPt_eq, jaPt_ne, jaUI_o, jaUI_2, jaUL_at, jaUL_o, jaUL_1, jaB_z, jaB_1, ↓jaB_01, Classical.not_not, and_self, true_or, or_true, nI_11, Nat.reduceEqDiff, Nat.reduceAdd, Nat.reduceMul, Nat.add_zero, Nat.zero_add, Nat.mul_zero, not_true_eq_false, not_false_eq_true, false_implies, true_implies, t0]
      · simp (disch := first | omega | decide) only [jaU_eq, jaU_U, nI_add, pk_mul, jaIx_nI, vp_inT, true_and, and_true, ↓jaO0, ↓jaO1, nI_z, nI_z2, nI_z3, nI_z4, nI_z5, nI_lt', nI_le', nI_eq', jaUI_at, jaPt_eq, jaPt_ne, jaUI_o, jaUI_2, jaUL_at, jaUL_o, jaUL_1, jaB_z, jaB_1, ↓jaB_01, Classical.not_not, and_self, true_or, or_true, nI_11, Nat.reduceEqDiff, Nat.reduceAdd, Nat.reduceMul, Nat.add_zero, Nat.zero_add, Nat.mul_zero, not_true_eq_false, not_false_eq_true, false_implies, true_implies, t1]
      · simp (disch := first | omega | decide) only [jaU_eq, jaU_U, nI_add, pk_mul, jaIx_nI, vp_inT, true_and, and_true, ↓jaO0, ↓jaO1, nI_z, nI_z2, nI_z3, nI_z4, nI_z5, nI_lt', nI_le', nI_eq', jaUI_at, jaPt_eq, jaPt_ne, jaUI_o, jaUI_2, jaUL_at, jaUL_o, jaUL_1, jaB_z, jaB_1, ↓jaB_01, Classical.not_not, and_self, true_or, or_true, nI_11, Nat.reduceEqDiff, Nat.reduceAdd, Nat.reduceMul, Nat.add_zero, Nat.zero_add, Nat.mul_zero, not_true_eq_false, not_false_eq_true, false_implies, true_implies]
      · simp (disch := first | omega | decide) only [jaU_eq, jaU_U, nI_add, pk_mul, jaIx_nI, vp_inT, true_and, and_true, ↓jaO0, ↓jaO1, nI_z, nI_z2, nI_z3, nI_z4, nI_z5, nI_lt', nI_le', nI_eq', jaUI_at, jaPt_eq, jaPt_ne, jaUI_o, jaUI_2, jaUL_at, jaUL_o, jaUL_1, jaB_z, jaB_1, ↓jaB_01, Classical.not_not, and_self, true_or, or_true, nI_11, Nat.reduceEqDiff, Nat.reduceAdd, Nat.reduceMul, Nat.add_zero, Nat.zero_add, Nat.mul_zero, not_true_eq_false, not_false_eq_true, false_implies, true_implies, m3 z]
      · simp (disch := first | omega | decide) only [jaU_eq, jaU_U, nI_add, pk_mul, jaIx_nI, vp_inT, true_and, and_true, ↓jaO0, ↓jaO1, nI_z, nI_z2, nI_z3, nI_z4, nI_z5, nI_lt', nI_le', nI_eq', jaUI_at, jaPt_eq, jaPt_ne, jaUI_o, jaUI_2, jaUL_at, jaUL_o, jaUL_1, jaB_z, jaB_1, ↓jaB_01, Classical.not_not, and_self, true_or, or_true, nI_11, Nat.reduceEqDiff, Nat.reduceAdd, Nat.reduceMul, Nat.add_zero, Nat.zero_add, Nat.mul_zero, not_true_eq_false, not_false_eq_true, false_implies, true_implies, c4 y]
    · refine K _ ?_ ?_ ?_ ?_ ?_ (fun o ho => by rw [jaUI_o ho, jaUI_o ho]) rfl
      · simp (disch := first | omega | decide) only [jaU_eq, jaU_U, nI_add, pk_mul, jaIx_nI, vp_inT, true_and, and_true, ↓jaO0, ↓jaO1, nI_z, nI_z2, nI_z3, nI_z4, nI_z5, nI_lt', nI_le', nI_eq', jaUI_at, jaPt_eq, jaPt_ne, jaUI_o, jaUI_2, jaUL_at, jaUL_o, jaUL_1, jaB_z, jaB_1, ↓jaB_01, Classical.not_not, and_self, true_or, or_true, nI_11, Nat.reduceEqDiff, Nat.reduceAdd, Nat.reduceMul, Nat.add_zero, Nat.zero_add, Nat.mul_zero, not_true_eq_false, not_false_eq_true, false_implies, true_implies, t0]
      · simp (disch := first | omega | decide) only [jaU_eq, jaU_U, nI_add, pk_mul, jaIx_nI, vp_inT, true_and, and_true, ↓jaO0, ↓jaO1, nI_z, nI_z2, nI_z3, nI_z4, nI_z5, nI_lt', nI_le', nI_eq', jaUI_at, jaPt_eq, jaPt_ne, jaUI_o, jaUI_2, jaUL_at, jaUL_o, jaUL_1, jaB_z, jaB_1, ↓jaB_01, Classical.not_not, and_self, true_or, or_true, nI_11, Nat.reduceEqDiff, Nat.reduceAdd, Nat.reduceMul, Nat.add_zero, Nat.zero_add, Nat.mul_zero, not_true_eq_false, not_false_eq_true, false_implies, true_implies, t1]
      · simp (disch := first | omega | decide) only [jaU_eq, jaU_U, nI_add, pk_mul, jaIx_nI, vp_inT, true_and, and_true, ↓jaO0, ↓jaO1, nI_z, nI_z2, nI_z3, nI_z4, nI_z5, nI_lt', nI_le', nI_eq', jaUI_at, jaPt_eq, jaPt_ne, jaUI_o, jaUI_2, jaUL_at, jaUL_o, jaUL_1, jaB_z, jaB_1, ↓jaB_01, Classical.not_not, and_self, true_or, or_true, nI_11, Nat.reduceEqDiff, Nat.reduceAdd, Nat.reduceMul, Nat.add_zero, Nat.zero_add, Nat.mul_zero, not_true_eq_false, not_false_eq_true, false_implies, true_implies]
      · simp (disch := first | omega | decide) only [jaU_eq, jaU_U, nI_add, pk_mul, jaIx_nI, vp_inT, true_and, and_true, ↓jaO0, ↓jaO1, nI_z, nI_z2, nI_z3, nI_z4, nI_z5, nI_lt', nI_le', nI_eq', jaUI_at, jaPt_eq, jaPt_ne, jaUI_o, jaUI_2, jaUL_at, jaUL_o, jaUL_1, jaB_z, jaB_1, ↓jaB_01, Classical.not_not, and_self, true_or, or_true, nI_11, Nat.reduceEqDiff, Nat.reduceAdd, Nat.reduceMul, Nat.add_zero, Nat.zero_add, Nat.mul_zero, not_true_eq_false, not_false_eq_true, false_implies, true_implies, m3 z]
      · simp (disch := first | omega | decide) only [jaU_eq, jaU_U, nI_add, pk_mul, jaIx_nI, vp_inT, true_and, and_true, ↓jaO0, ↓jaO1, nI_z, nI_z2, nI_z3, nI_z4, nI_z5, nI_lt', nI_le', nI_eq', jaUI_at, jaPt_eq, jaPt_ne, jaUI_o, jaUI_2, jaUL_at, jaUL_o, jaUL_1, jaB_z, jaB_1, ↓jaB_01, Classical.not_not, and_self, true_or, or_true, nI_11, Nat.reduceEqDiff, Nat.reduceAdd, Nat.reduceMul, Nat.add_zero, Nat.zero_add, Nat.mul_zero, not_true_eq_false, not_false_eq_true, false_implies, true_implies, m4 y]
  apply js_Wo_addUntold
  rw [e2]
  refine ⟨fun q => ?_, fun q => ?_⟩
  · have q' : ¬ jz w.1 2 = 0 := fun z => q (by rw [z]; rfl)
    have l := L (τ k) a0 a1 rfl rfl (fun S' s0 s1 s2 s3 s4 so sl => h _ (by
      rw [jaU_eq]
      unfold jwUn
      rw [jaIf1_f q']
      refine ⟨⟨s0, s1, s2.trans a2, s3, s4⟩, fun k hk => ?_, fun c hc => ?_, fun c hc => ?_⟩
      · rw [so 31 (by decide), so 32 (by decide)]; exact b1 k hk
      · rw [so 33 (by decide), so 34 (by decide)]; exact b2 c hc
      · rw [so 34 (by decide)]; exact b3 c hc) (by rw [jaU_eq]; exact sl) (fun q hq => jaU_ne hq))
    rw [jaU_self] at l
    simp only [jaU_eq, jaU_U]
    exact l
  · have q' : jz w.1 2 = 0 := by
      rw [nI_z (by omega)] at q
      exact q
    have l := L (jaUI (jaUI (jaUI (τ k) 30 0 2 (nI 1)) 33 0 0 (nI 1)) 34 0 0 (nI 0)) (by simp (disch := first | omega | decide) only [jaU_eq, jaU_U, nI_add, pk_mul, jaIx_nI, vp_inT, true_and, and_true, ↓jaO0, ↓jaO1, nI_z, nI_z2, nI_z3, nI_z4, nI_z5, nI_lt', nI_le', nI_eq', jaUI_at, jaPt_eq, jaPt_ne, jaUI_o, jaUI_2, jaUL_at, jaUL_o, jaUL_1, jaB_z, jaB_1, ↓jaB_01, Classical.not_not, and_self, true_or, or_true, nI_11, Nat.reduceEqDiff, Nat.reduceAdd, Nat.reduceMul, Nat.add_zero, Nat.zero_add, Nat.mul_zero, not_true_eq_false, not_false_eq_true, false_implies, true_implies, a0]) (by simp (disch := first | omega | decide) only [jaU_eq, jaU_U, nI_add, pk_mul, jaIx_nI, vp_inT, true_and, and_true, ↓jaO0, ↓jaO1, nI_z, nI_z2, nI_z3, nI_z4, nI_z5, nI_lt', nI_le', nI_eq', jaUI_at, jaPt_eq, jaPt_ne, jaUI_o, jaUI_2, jaUL_at, jaUL_o, jaUL_1, jaB_z, jaB_1, ↓jaB_01, Classical.not_not, and_self, true_or, or_true, nI_11, Nat.reduceEqDiff, Nat.reduceAdd, Nat.reduceMul, Nat.add_zero, Nat.zero_add, Nat.mul_zero, not_true_eq_false, not_false_eq_true, false_implies, true_implies, a1]) (by simp (disch := first | omega | decide) only [jaU_eq, jaU_U, nI_add, pk_mul, jaIx_nI, vp_inT, true_and, and_true, ↓jaO0, ↓jaO1, nI_z, nI_z2, nI_z3, nI_z4, nI_z5, nI_lt', nI_le', nI_eq', jaUI_at, jaPt_eq, jaPt_ne, jaUI_o, jaUI_2, jaUL_at, jaUL_o, jaUL_1, jaB_z, jaB_1, ↓jaB_01, Classical.not_not, and_self, true_or, or_true, nI_11, Nat.reduceEqDiff, Nat.reduceAdd, Nat.reduceMul, Nat.add_zero, Nat.zero_add, Nat.mul_zero, not_true_eq_false, not_false_eq_true, false_implies, true_implies]) (by simp (disch := first | omega | decide) only [jaU_eq, jaU_U, nI_add, pk_mul, jaIx_nI, vp_inT, true_and, and_true, ↓jaO0, ↓jaO1, nI_z, nI_z2, nI_z3, nI_z4, nI_z5, nI_lt', nI_le', nI_eq', jaUI_at, jaPt_eq, jaPt_ne, jaUI_o, jaUI_2, jaUL_at, jaUL_o, jaUL_1, jaB_z, jaB_1, ↓jaB_01, Classical.not_not, and_self, true_or, or_true, nI_11, Nat.reduceEqDiff, Nat.reduceAdd, Nat.reduceMul, Nat.add_zero, Nat.zero_add, Nat.mul_zero, not_true_eq_false, not_false_eq_true, false_implies, true_implies]) (fun S' s0 s1 s2 s3 s4 so sl => h _ (by
      rw [jaU_eq]
      unfold jwUn
      rw [jaIf1_t q']
      have e25 : jz (jaPt (jaPt w.1 2 (nI 1)) 25 (nI 1)) 2 = 1 := by rw [jz, jaPt_ne (by decide), jaPt_eq, jaIx_nI (by omega)]
      have e1 : jz (jaPt (jaPt w.1 2 (nI 1)) 25 (nI 1)) 1 = jz w.1 1 := jz_c (by rw [jaPt_ne (by decide), jaPt_ne (by decide)])
      have h10 := w1.2
      refine ⟨⟨?_, ?_, ?_, ?_, ?_⟩, fun k hk => ?_, fun c hc => ?_, fun c hc => ?_⟩
      · rw [s0, jaPt_ne (by decide), jaPt_ne (by decide)]
      · rw [s1, jaPt_ne (by decide), jaPt_ne (by decide)]
      · rw [s2, jaPt_ne (by decide), jaPt_eq]
        simp (disch := first | omega | decide) only [jaU_eq, jaU_U, nI_add, pk_mul, jaIx_nI, vp_inT, true_and, and_true, ↓jaO0, ↓jaO1, nI_z, nI_z2, nI_z3, nI_z4, nI_z5, nI_lt', nI_le', nI_eq', jaUI_at, jaPt_eq, jaPt_ne, jaUI_o, jaUI_2, jaUL_at, jaUL_o, jaUL_1, jaB_z, jaB_1, ↓jaB_01, Classical.not_not, and_self, true_or, or_true, nI_11, Nat.reduceEqDiff, Nat.reduceAdd, Nat.reduceMul, Nat.add_zero, Nat.zero_add, Nat.mul_zero, not_true_eq_false, not_false_eq_true, false_implies, true_implies]
      · rw [s3, jaPt_ne (by decide), jaPt_ne (by decide)]
      · rw [s4, jaPt_ne (by decide), jaPt_ne (by decide)]
      · rw [e1] at hk
        rw [so 31 (by decide), so 32 (by decide), jaPt_ne (by omega), jaPt_ne (by omega), jaPt_ne (by omega), jaPt_ne (by omega)]
        simp (disch := first | omega | decide) only [jaU_eq, jaU_U, nI_add, pk_mul, jaIx_nI, vp_inT, true_and, and_true, ↓jaO0, ↓jaO1, nI_z, nI_z2, nI_z3, nI_z4, nI_z5, nI_lt', nI_le', nI_eq', jaUI_at, jaPt_eq, jaPt_ne, jaUI_o, jaUI_2, jaUL_at, jaUL_o, jaUL_1, jaB_z, jaB_1, ↓jaB_01, Classical.not_not, and_self, true_or, or_true, nI_11, Nat.reduceEqDiff, Nat.reduceAdd, Nat.reduceMul, Nat.add_zero, Nat.zero_add, Nat.mul_zero, not_true_eq_false, not_false_eq_true, false_implies, true_implies]
        exact b1 k hk
      · rw [e25] at hc
        have hc0 : c = 0 := by omega
        subst hc0
        rw [so 33 (by decide), so 34 (by decide)]
        simp (disch := first | omega | decide) only [jaU_eq, jaU_U, nI_add, pk_mul, jaIx_nI, vp_inT, true_and, and_true, ↓jaO0, ↓jaO1, nI_z, nI_z2, nI_z3, nI_z4, nI_z5, nI_lt', nI_le', nI_eq', jaUI_at, jaPt_eq, jaPt_ne, jaUI_o, jaUI_2, jaUL_at, jaUL_o, jaUL_1, jaB_z, jaB_1, ↓jaB_01, Classical.not_not, and_self, true_or, or_true, nI_11, Nat.reduceEqDiff, Nat.reduceAdd, Nat.reduceMul, Nat.add_zero, Nat.zero_add, Nat.mul_zero, not_true_eq_false, not_false_eq_true, false_implies, true_implies]
        exact (d3 q').symm
      · rw [so 34 (by decide)]
        by_cases y : c = 0
        · rw [y]
          left
          simp (disch := first | omega | decide) only [jaU_eq, jaU_U, nI_add, pk_mul, jaIx_nI, vp_inT, true_and, and_true, ↓jaO0, ↓jaO1, nI_z, nI_z2, nI_z3, nI_z4, nI_z5, nI_lt', nI_le', nI_eq', jaUI_at, jaPt_eq, jaPt_ne, jaUI_o, jaUI_2, jaUL_at, jaUL_o, jaUL_1, jaB_z, jaB_1, ↓jaB_01, Classical.not_not, and_self, true_or, or_true, nI_11, Nat.reduceEqDiff, Nat.reduceAdd, Nat.reduceMul, Nat.add_zero, Nat.zero_add, Nat.mul_zero, not_true_eq_false, not_false_eq_true, false_implies, true_implies]
        · simp (disch := first | omega | decide) only [jaU_eq, jaU_U, nI_add, pk_mul, jaIx_nI, vp_inT, true_and, and_true, ↓jaO0, ↓jaO1, nI_z, nI_z2, nI_z3, nI_z4, nI_z5, nI_lt', nI_le', nI_eq', jaUI_at, jaPt_eq, jaPt_ne, jaUI_o, jaUI_2, jaUL_at, jaUL_o, jaUL_1, jaB_z, jaB_1, ↓jaB_01, Classical.not_not, and_self, true_or, or_true, nI_11, Nat.reduceEqDiff, Nat.reduceAdd, Nat.reduceMul, Nat.add_zero, Nat.zero_add, Nat.mul_zero, not_true_eq_false, not_false_eq_true, false_implies, true_implies]
          exact b3 c hc) (by rw [jaU_eq]; exact sl) (fun q hq => jaU_ne hq))
    simp only [jaU_eq, jaU_U]
    simp (disch := first | omega | decide) only [jaU_eq, jaU_U, nI_add, pk_mul, jaIx_nI, vp_inT, true_and, and_true, ↓jaO0, ↓jaO1, nI_z, nI_z2, nI_z3, nI_z4, nI_z5, nI_lt', nI_le', nI_eq', jaUI_at, jaPt_eq, jaPt_ne, jaUI_o, jaUI_2, jaUL_at, jaUL_o, jaUL_1, jaB_z, jaB_1, ↓jaB_01, Classical.not_not, and_self, true_or, or_true, nI_11, Nat.reduceEqDiff, Nat.reduceAdd, Nat.reduceMul, Nat.add_zero, Nat.zero_add, Nat.mul_zero, not_true_eq_false, not_false_eq_true, false_implies, true_implies] at l
    simp (disch := first | omega | decide) only [jaU_eq, jaU_U, nI_add, pk_mul, jaIx_nI, vp_inT, true_and, and_true, ↓jaO0, ↓jaO1, nI_z, nI_z2, nI_z3, nI_z4, nI_z5, nI_lt', nI_le', nI_eq', jaUI_at, jaPt_eq, jaPt_ne, jaUI_o, jaUI_2, jaUL_at, jaUL_o, jaUL_1, jaB_z, jaB_1, ↓jaB_01, Classical.not_not, and_self, true_or, or_true, nI_11, Nat.reduceEqDiff, Nat.reduceAdd, Nat.reduceMul, Nat.add_zero, Nat.zero_add, Nat.mul_zero, not_true_eq_false, not_false_eq_true, false_implies, true_implies]
    exact l
theorem jwB_l {A B : Type} {r : Sum jwF A} {f : A → Sum jwF B} {x : jwF} (h : r = .inl x) : jwB r f = .inl x := by rw [h]; rfl
theorem jwB_i {A B : Type} {r : Sum jwF A} {f : A → Sum jwF B} {a : A} (h : r = .inr a) : jwB r f = f a := by rw [h]; rfl
/-- none told yet -/
noncomputable def jwNo : jwS := (fun j => jaIf1 (j = 3) (nI 5) (jaIf1 (j = 4) (nI 2) (nI 0)), fun _ => 0, 0, 0)
theorem jwNo_W : jwW jwNo ∧ jwD jwNo := by
  have z : ∀ j, j ≠ 3 → j ≠ 4 → jwNo.1 j = nI 0 := fun j a b => by
    show jaIf1 (j = 3) (nI 5) (jaIf1 (j = 4) (nI 2) (nI 0)) = _
    rw [jaIf1_f a, jaIf1_f b]
  have z3 : jwNo.1 3 = nI 5 := jaIf1_t rfl
  have z4 : jwNo.1 4 = nI 2 := by
    show jaIf1 ((4 : Nat) = 3) (nI 5) (jaIf1 ((4 : Nat) = 4) (nI 2) (nI 0)) = _
    rw [jaIf1_f (by decide), jaIf1_t rfl]
  have y : ∀ j, j ≠ 3 → j ≠ 4 → jz jwNo.1 j = 0 := fun j a b => by rw [jz, z j a b, jaIx_nI (by omega)]
  have y3 : jz jwNo.1 3 = 5 := by rw [jz, z3, jaIx_nI (by omega)]
  have y4 : jz jwNo.1 4 = 2 := by rw [jz, z4, jaIx_nI (by omega)]
  refine ⟨⟨?_, ?_, ?_, ?_, ?_, fun k hk => ?_, fun c hc => ?_, fun j _ => ⟨?_, fun _ => rfl⟩, Nat.zero_le _, Nat.zero_le _⟩, fun _ => z3, fun _ => z4, fun _ => z 28 (by decide) (by decide)⟩
  · rw [y 0 (by decide) (by decide), z 0 (by decide) (by decide)]; exact ⟨rfl, by omega⟩
  · rw [y 1 (by decide) (by decide), z 1 (by decide) (by decide)]; exact ⟨rfl, by omega⟩
  · rw [y 2 (by decide) (by decide), z 2 (by decide) (by decide)]; exact ⟨rfl, by omega⟩
  · rw [y3, z3]; exact ⟨rfl, by omega, by omega⟩
  · rw [y4, z4]; exact ⟨rfl, by omega⟩
  · rw [y 1 (by decide) (by decide)] at hk
    exact absurd hk (by omega)
  · rw [y 2 (by decide) (by decide)] at hc
    exact absurd hc (by omega)
  · show 0 < 9223372036854775808
    omega
theorem jwLine_k {X : jtX} {w : jwS} {i : Nat} {y : jwS × Nat} (h : jwLine X w i = .inr y) : 100 ≤ jtK X i := by
  unfold jwLine at h
  by_cases q1 : jtK X i = 105
  · omega
  · rw [jaIf1_f q1] at h
    by_cases q2 : jtK X i = 106
    · omega
    · rw [jaIf1_f q2] at h
      by_cases q3 : jtK X i = 100
      · omega
      · rw [jaIf1_f q3] at h
        by_cases q4 : jtK X i = 101
        · omega
        · rw [jaIf1_f q4] at h
          by_cases q5 : jtK X i = 102
          · omega
          · rw [jaIf1_f q5] at h
            cases h
set_option maxHeartbeats 1000000 in
theorem sp_Wo_read {D : Nat} (hD : 5 ≤ D) {kk : Int32 → jaT → Prop} {τ : jaT} {X : jtX} {k : Nat} (hk : k ≠ 0) (hR : jtR (τ 0) X 0) (hl : X.2.1 ≤ 940) (hb : ∀ c, c < 3 → (τ k).1 34 0 c = 0 ∨ (τ k).1 34 0 c = 1)
    (h : ∀ w n, jwAll X 941 jwNo 0 0 = .inr (w, n) → jwW w → jwD w → ∀ τ', jRw (τ' k) (jwUn w.1) → (∀ j, j < 16 → (τ' k).2 35 0 j = Int64.ofNat (w.2.1 j)) → jcFr k τ τ' → kk (nI n) τ') (hf : ∀ c p, jwAll X 941 jwNo 0 0 = .inl (c, p) → ∀ τ', jtFl (τ' 0) X c p → jcFr k τ τ' → (∀ c, c < 3 → (τ' k).1 34 0 c = 0 ∨ (τ' k).1 34 0 c = 1) → kk (-1) τ') : jaDe D jy_Wo_read [jcWo k, .inr (.inr (2, 0, 0))] τ (jaKi kk) := by
  obtain ⟨D, rfl, hD⟩ := jaSuc hD
  have hX := hR.1
  apply js_Wo_read
  simp only [jaU_eq, jaU_U]
  -- the LINES
  have L : ∀ m w n i τ1, 941 ≤ i + m → n ≤ i → i ≤ 940 → jwW w → jwD w → jcW (τ1 k) w → jtR (τ1 0) X i → jcFr k τ τ1 → (∀ w' n', jwAll X m w n i = .inr (w', n') → jwW w' → jwD w' → ∀ τ', jRw (τ' k) (jwUn w'.1) → (∀ j, j < 16 → (τ' k).2 35 0 j = Int64.ofNat (w'.2.1 j)) → jcFr k τ τ' → kk (nI n') τ') → (∀ c p, jwAll X m w n i = .inl (c, p) → ∀ τ', jtFl (τ' 0) X c p → jcFr k τ τ' → (∀ c, c < 3 → (τ' k).1 34 0 c = 0 ∨ (τ' k).1 34 0 c = 1) → kk (-1) τ') → jc_Wo_read_3 D kk k (nI n) (nI n) τ1 := by
    intro m
    induction m with
    | zero => intro w n i τ1 hm hn hi; exact absurd hi (by omega)
    | succ m ih =>
      intro w n i τ1 hm hn hi hw hd hc hR1 f1 K KF
      have hK := hR1.x
      rw [jwAll] at K KF
      apply jb_Wo_read_3
      simp (disch := first | omega | decide) only [jaU_eq, jaU_U, nI_add, pk_mul, jaIx_nI, vp_inT, true_and, and_true, ↓jaO0, ↓jaO1, nI_z, nI_z2, nI_z3, nI_z4, nI_z5, nI_lt', nI_le', nI_eq', jaUI_at, jaPt_eq, jaPt_ne, jaUI_o, jaUI_2, jaUL_at, jaUL_o, jaUL_1, jaB_z, jaB_1, ↓jaB_01, Classical.not_not, and_self, true_or, or_true, nI_11, Nat.reduceEqDiff, Nat.reduceAdd, Nat.reduceMul, Nat.add_zero, Nat.zero_add, Nat.mul_zero, not_true_eq_false, not_false_eq_true, false_implies, true_implies]
      refine ⟨fun q => absurd q (by omega), fun _ => ?_⟩
      refine sp_Rd_kind (by omega) hR1 ?_
      simp (disch := first | omega | decide) only [jaU_eq, jaU_U, nI_add, pk_mul, jaIx_nI, vp_inT, true_and, and_true, ↓jaO0, ↓jaO1, nI_z, nI_z2, nI_z3, nI_z4, nI_z5, nI_lt', nI_le', nI_eq', jaUI_at, jaPt_eq, jaPt_ne, jaUI_o, jaUI_2, jaUL_at, jaUL_o, jaUL_1, jaB_z, jaB_1, ↓jaB_01, Classical.not_not, and_self, true_or, or_true, nI_11, Nat.reduceEqDiff, Nat.reduceAdd, Nat.reduceMul, Nat.add_zero, Nat.zero_add, Nat.mul_zero, not_true_eq_false, not_false_eq_true, false_implies, true_implies]
      refine ⟨fun q => ?_, fun q => ?_⟩
      · rw [jaIf1_t q] at K
        refine sp_Wo_addUntold (by omega) hc hw hd (fun τ2 u1 u2 u3 => ?_)
        refine K w n rfl hw hd τ2 u1 (fun j hj => by rw [u2]; exact hc.2.2.2.2 j hj) (f1.trans ⟨fun q a b => u3 q b, fun o ho => by rw [u3 0 (Ne.symm hk)]⟩)
      · rw [jaIf1_f q] at K KF
        refine sp_Wo_readLine (by omega) hk hR1 hc hw (fun w' i' e τ2 u1 u2 u3 => ?_) (fun c p e τ2 u1 u2 => ?_)
        · rw [jwB_i e] at K KF
          obtain ⟨hw', hii⟩ := jwLine_W hX hw e
          have hd' := jwLine_D hw hd e
          refine ⟨fun z => absurd z (by decide), fun _ => ?_⟩
          refine sp_Rd_take (c := 59) (by omega) u2 (by omega) (fun q2 S' s1 s2 s3 => ?_) (fun q2 S' s1 s2 s3 => ?_)
          · rw [jaIf1_t q2] at K KF
            refine ⟨fun _ => ?_, fun z => absurd z (by decide)⟩
            have hin := jtK_in (X := X) (i := i') (by omega) (by omega)
            refine ih w' (n + 1) (i' + 1) _ (by omega) (by omega) (by omega) hw' hd' ?_ (by rw [jaU_eq]; exact s3) (f1.trans (u3.trans (jtF2.u s1 s2).c)) K KF
            rw [jaU_ne hk]
            exact u1
          · rw [jaIf1_f q2] at KF
            refine ⟨fun z => absurd rfl z, fun _ => ?_⟩
            exact KF 1 i' rfl _ (by rw [jaU_eq]; exact s3) (f1.trans (u3.trans (jtF2.u s1 s2).c)) (by rw [jaU_ne hk]; exact u1.2.2.2.1)
        · rw [jwB_l e] at KF
          exact ⟨fun _ => KF c p rfl τ2 u1 (f1.trans u2.1) (fun c h3 => by rw [u2.2]; exact hc.2.2.2.1 c h3), fun z => absurd rfl z⟩
  -- NAMES gone
  refine jaFor (C := fun j => ∀ T, (∀ o, o ≠ 30 → T.1 o = (τ k).1 o) → T.1 30 0 0 = nI 0 → T.1 30 0 1 = nI 0 → T.1 30 0 2 = nI 0 → T.1 30 0 3 = -1 → T.1 30 0 4 = -1 → (∀ q, q < j → T.2 35 0 q = Int64.ofNat 0) → jc_Wo_read_1 D kk k (nI j) (jaU τ k T)) (N := 16) ?_ (fun j hj ih => ?_) _ (fun o ho => by rw [jaUI_o ho, jaUI_o ho, jaUI_o ho, jaUI_o ho, jaUI_o ho]) (by simp (disch := first | omega | decide) only [jaU_eq, jaU_U, nI_add, pk_mul, jaIx_nI, vp_inT, true_and, and_true, ↓jaO0, ↓jaO1, nI_z, nI_z2, nI_z3, nI_z4, nI_z5, nI_lt', nI_le', nI_eq', jaUI_at, jaPt_eq, jaPt_ne, jaUI_o, jaUI_2, jaUL_at, jaUL_o, jaUL_1, jaB_z, jaB_1, ↓jaB_01, Classical.not_not, and_self, true_or, or_true, nI_11, Nat.reduceEqDiff, Nat.reduceAdd, Nat.reduceMul, Nat.add_zero, Nat.zero_add, Nat.mul_zero, not_true_eq_false, not_false_eq_true, false_implies, true_implies]) (by simp (disch := first | omega | decide) only [jaU_eq, jaU_U, nI_add, pk_mul, jaIx_nI, vp_inT, true_and, and_true, ↓jaO0, ↓jaO1, nI_z, nI_z2, nI_z3, nI_z4, nI_z5, nI_lt', nI_le', nI_eq', jaUI_at, jaPt_eq, jaPt_ne, jaUI_o, jaUI_2, jaUL_at, jaUL_o, jaUL_1, jaB_z, jaB_1, ↓jaB_01, Classical.not_not, and_self, true_or, or_true, nI_11, Nat.reduceEqDiff, Nat.reduceAdd, Nat.reduceMul, Nat.add_zero, Nat.zero_add, Nat.mul_zero, not_true_eq_false, not_false_eq_true, false_implies, true_implies]) (by simp (disch := first | omega | decide) only [jaU_eq, jaU_U, nI_add, pk_mul, jaIx_nI, vp_inT, true_and, and_true, ↓jaO0, ↓jaO1, nI_z, nI_z2, nI_z3, nI_z4, nI_z5, nI_lt', nI_le', nI_eq', jaUI_at, jaPt_eq, jaPt_ne, jaUI_o, jaUI_2, jaUL_at, jaUL_o, jaUL_1, jaB_z, jaB_1, ↓jaB_01, Classical.not_not, and_self, true_or, or_true, nI_11, Nat.reduceEqDiff, Nat.reduceAdd, Nat.reduceMul, Nat.add_zero, Nat.zero_add, Nat.mul_zero, not_true_eq_false, not_false_eq_true, false_implies, true_implies]) (by simp (disch := first | omega | decide) only [jaU_eq, jaU_U, nI_add, pk_mul, jaIx_nI, vp_inT, true_and, and_true, ↓jaO0, ↓jaO1, nI_z, nI_z2, nI_z3, nI_z4, nI_z5, nI_lt', nI_le', nI_eq', jaUI_at, jaPt_eq, jaPt_ne, jaUI_o, jaUI_2, jaUL_at, jaUL_o, jaUL_1, jaB_z, jaB_1, ↓jaB_01, Classical.not_not, and_self, true_or, or_true, nI_11, Nat.reduceEqDiff, Nat.reduceAdd, Nat.reduceMul, Nat.add_zero, Nat.zero_add, Nat.mul_zero, not_true_eq_false, not_false_eq_true, false_implies, true_implies]) (by simp (disch := first | omega | decide) only [jaU_eq, jaU_U, nI_add, pk_mul, jaIx_nI, vp_inT, true_and, and_true, ↓jaO0, ↓jaO1, nI_z, nI_z2, nI_z3, nI_z4, nI_z5, nI_lt', nI_le', nI_eq', jaUI_at, jaPt_eq, jaPt_ne, jaUI_o, jaUI_2, jaUL_at, jaUL_o, jaUL_1, jaB_z, jaB_1, ↓jaB_01, Classical.not_not, and_self, true_or, or_true, nI_11, Nat.reduceEqDiff, Nat.reduceAdd, Nat.reduceMul, Nat.add_zero, Nat.zero_add, Nat.mul_zero, not_true_eq_false, not_false_eq_true, false_implies, true_implies]) (fun _ q => absurd q (by omega))
  · intro T so t0 t1 t2 t3 t4 tn
    have e0 : jaU τ k T 0 = τ 0 := jaU_ne (Ne.symm hk)
    apply jb_Wo_read_1
    simp (disch := first | omega | decide) only [jaU_eq, jaU_U, nI_add, pk_mul, jaIx_nI, vp_inT, true_and, and_true, ↓jaO0, ↓jaO1, nI_z, nI_z2, nI_z3, nI_z4, nI_z5, nI_lt', nI_le', nI_eq', jaUI_at, jaPt_eq, jaPt_ne, jaUI_o, jaUI_2, jaUL_at, jaUL_o, jaUL_1, jaB_z, jaB_1, ↓jaB_01, Classical.not_not, and_self, true_or, or_true, nI_11, Nat.reduceEqDiff, Nat.reduceAdd, Nat.reduceMul, Nat.add_zero, Nat.zero_add, Nat.mul_zero, not_true_eq_false, not_false_eq_true, false_implies, true_implies]
    refine ⟨fun _ => ?_, fun q => absurd (by omega) q⟩
    have no : ∀ j, j ≠ 3 → j ≠ 4 → jwNo.1 j = nI 0 := fun j a b => by
      show jaIf1 (j = 3) (nI 5) (jaIf1 (j = 4) (nI 2) (nI 0)) = _
      rw [jaIf1_f a, jaIf1_f b]
    have nz : ∀ j, j ≠ 3 → j ≠ 4 → jz jwNo.1 j = 0 := fun j a b => by rw [jz, no j a b, jaIx_nI (by omega)]
    refine L 941 jwNo 0 0 _ (by omega) (by omega) (by omega) jwNo_W.1 jwNo_W.2 ?_ (by rw [e0]; exact hR) (jcFr.k hk) h hf
    rw [jaU_eq]
    refine ⟨⟨t0.trans (no 0 (by decide) (by decide)).symm, t1.trans (no 1 (by decide) (by decide)).symm, t2.trans (no 2 (by decide) (by decide)).symm, ?_, ?_⟩, fun q hq => ?_, fun c hc => ?_, fun c hc => ?_, tn⟩
    · rw [t3]
      exact (jaIf1_f (show ¬ (0 : Nat) = 1 by decide)).symm
    · rw [t4]
      exact (jaIf1_f (show ¬ (0 : Nat) = 1 by decide)).symm
    · rw [nz 1 (by decide) (by decide)] at hq
      exact absurd hq (by omega)
    · rw [nz 2 (by decide) (by decide)] at hc
      exact absurd hc (by omega)
    · rw [so 34 (by decide)]
      exact hb c hc
  · intro T so t0 t1 t2 t3 t4 tn
    apply jb_Wo_read_1
    simp (disch := first | omega | decide) only [jaU_eq, jaU_U, nI_add, pk_mul, jaIx_nI, vp_inT, true_and, and_true, ↓jaO0, ↓jaO1, nI_z, nI_z2, nI_z3, nI_z4, nI_z5, nI_lt', nI_le', nI_eq', jaUI_at, jaPt_eq, jaPt_ne, jaUI_o, jaUI_2, jaUL_at, jaUL_o, jaUL_1, jaB_z, jaB_1, ↓jaB_01, Classical.not_not, and_self, true_or, or_true, nI_11, Nat.reduceEqDiff, Nat.reduceAdd, Nat.reduceMul, Nat.add_zero, Nat.zero_add, Nat.mul_zero, not_true_eq_false, not_false_eq_true, false_implies, true_implies]
    refine ⟨fun q => absurd q (by omega), fun _ => ?_⟩
    refine ih _ (fun o ho => by rw [jaUL_1]; exact so o ho) t0 t1 t2 t3 t4 (fun q hq => ?_)
    rw [jaUL_at]
    by_cases y : q = j
    · exact if_pos y
    · exact (if_neg y).trans (tn q (by omega))
end
