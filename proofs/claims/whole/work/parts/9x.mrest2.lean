section
/-! the reference: restore -/
set_option maxHeartbeats 2000000 in
theorem sp_M_restore {D : Nat} (hD : 2 ≤ D) {kk : Int32 → jaT → Prop} {σ : jaT} {S : jaS} {k : Nat} (hk : k < 2) (h0 : S.1 95 0 k = nI 0 → kk (nI 0) (jaU σ 20 (jaUI S 70 0 0 (nI 0)))) (h : ¬ S.1 95 0 k = nI 0 → ∀ B : jaS, B.1 72 0 = jvCp (S.1 72 0) 0 (S.1 91 0) (706 * k) 706 → B.1 75 0 = jvCp (S.1 75 0) 0 (S.1 92 0) (3192 * k) 3192 → B.1 76 0 = jvCp (S.1 76 0) 0 (S.1 93 0) (576 * k) 576 → (∀ j, j < 16 → B.2 78 0 j = S.2 94 0 (16 * k + j)) → B.1 70 0 33 = nI 0 → jaFr [72, 75, 76, 78] [0, 33] S B → kk (nI 1) (jaU σ 20 B)) : jaDe D jy_M_restore [jaMo, .inl (nI k)] (jaU σ 20 S) (jaKi kk) := by
  obtain ⟨D, rfl, hD⟩ := jaSuc hD
  apply js_M_restore
  simp (disch := first | omega | decide) only [jaU_eq, jaU_U, nI_add, pk_mul, jaIx_nI, vp_inT, true_and, and_true, ↓jaO0, ↓jaO1, nI_z, nI_z2, nI_z3, nI_z4, nI_z5, nI_lt', nI_le', nI_eq', jaUI_at, jaPt_eq, jaPt_ne, jaUI_o, jaUI_2, jaUL_at, jaUL_o, jaUL_1, jaB_z, jaB_1, ↓jaB_01, Classical.not_not, and_self, true_or, or_true, nI_11, Nat.reduceEqDiff, Nat.reduceAdd, Nat.reduceMul, Nat.add_zero, Nat.zero_add, Nat.mul_zero, not_true_eq_false, not_false_eq_true, false_implies, true_implies]
  refine sp_M_isIn (by omega) ?_
  have e : (¬ nI k < nI 0 ∧ ¬ nI 1 < nI k) ↔ True := by
    rw [nI_lt' (by omega) (by omega), nI_lt' (by omega) (by omega)]
    exact ⟨fun _ => trivial, fun _ => by omega⟩
  rw [jaB_c e, jaB_t trivial]
  simp (disch := first | omega | decide) only [jaU_eq, jaU_U, nI_add, pk_mul, jaIx_nI, vp_inT, true_and, and_true, ↓jaO0, ↓jaO1, nI_z, nI_z2, nI_z3, nI_z4, nI_z5, nI_lt', nI_le', nI_eq', jaUI_at, jaPt_eq, jaPt_ne, jaUI_o, jaUI_2, jaUL_at, jaUL_o, jaUL_1, jaB_z, jaB_1, ↓jaB_01, Classical.not_not, and_self, true_or, or_true, nI_11, Nat.reduceEqDiff, Nat.reduceAdd, Nat.reduceMul, Nat.add_zero, Nat.zero_add, Nat.mul_zero, not_true_eq_false, not_false_eq_true, false_implies, true_implies]
  refine ⟨fun z => ?_, fun z => h0 z⟩
  have h := h z
  have f0 : jaFr [72, 75, 76, 78] [0, 33] S (jaUI S 70 0 0 (nI 0)) := jaFr.rfl.uf (by decide)
  refine jaFor (C := fun i => ∀ B, B.1 72 0 = jvCp (S.1 72 0) 0 (S.1 91 0) (706 * k) i → B.1 75 0 = S.1 75 0 → B.1 76 0 = S.1 76 0 → jaFr [72, 75, 76, 78] [0, 33] S B → jc_M_restore_3 D kk (nI k) (nI i) (jaU σ 20 B)) (N := 706) ?_ (fun i hi ih => ?_) (jaUI S 70 0 0 (nI 0)) (by simp (disch := first | omega | decide) only [jaU_eq, jaU_U, nI_add, pk_mul, jaIx_nI, vp_inT, true_and, and_true, ↓jaO0, ↓jaO1, nI_z, nI_z2, nI_z3, nI_z4, nI_z5, nI_lt', nI_le', nI_eq', jaUI_at, jaPt_eq, jaPt_ne, jaUI_o, jaUI_2, jaUL_at, jaUL_o, jaUL_1, jaB_z, jaB_1, ↓jaB_01, Classical.not_not, and_self, true_or, or_true, nI_11, Nat.reduceEqDiff, Nat.reduceAdd, Nat.reduceMul, Nat.add_zero, Nat.zero_add, Nat.mul_zero, not_true_eq_false, not_false_eq_true, false_implies, true_implies, jvCp_0]) (by simp (disch := first | omega | decide) only [jaU_eq, jaU_U, nI_add, pk_mul, jaIx_nI, vp_inT, true_and, and_true, ↓jaO0, ↓jaO1, nI_z, nI_z2, nI_z3, nI_z4, nI_z5, nI_lt', nI_le', nI_eq', jaUI_at, jaPt_eq, jaPt_ne, jaUI_o, jaUI_2, jaUL_at, jaUL_o, jaUL_1, jaB_z, jaB_1, ↓jaB_01, Classical.not_not, and_self, true_or, or_true, nI_11, Nat.reduceEqDiff, Nat.reduceAdd, Nat.reduceMul, Nat.add_zero, Nat.zero_add, Nat.mul_zero, not_true_eq_false, not_false_eq_true, false_implies, true_implies]) (by simp (disch := first | omega | decide) only [jaU_eq, jaU_U, nI_add, pk_mul, jaIx_nI, vp_inT, true_and, and_true, ↓jaO0, ↓jaO1, nI_z, nI_z2, nI_z3, nI_z4, nI_z5, nI_lt', nI_le', nI_eq', jaUI_at, jaPt_eq, jaPt_ne, jaUI_o, jaUI_2, jaUL_at, jaUL_o, jaUL_1, jaB_z, jaB_1, ↓jaB_01, Classical.not_not, and_self, true_or, or_true, nI_11, Nat.reduceEqDiff, Nat.reduceAdd, Nat.reduceMul, Nat.add_zero, Nat.zero_add, Nat.mul_zero, not_true_eq_false, not_false_eq_true, false_implies, true_implies]) f0
  · intro B b72 b75 b76 f
    apply jb_M_restore_3
    refine ⟨fun _ => ?_, fun z => absurd (by decide) z⟩
    refine jaFor (C := fun i => ∀ B, B.1 72 0 = jvCp (S.1 72 0) 0 (S.1 91 0) (706 * k) 706 → B.1 75 0 = jvCp (S.1 75 0) 0 (S.1 92 0) (3192 * k) i → B.1 76 0 = S.1 76 0 → jaFr [72, 75, 76, 78] [0, 33] S B → jc_M_restore_5 D kk (nI k) (nI i) (jaU σ 20 B)) (N := 3192) ?_ (fun i hi ih => ?_) B b72 (by rw [b75, jvCp_0]) b76 f
    · clear b72 b75 b76 f B
      intro B b72 b75 b76 f
      apply jb_M_restore_5
      refine ⟨fun _ => ?_, fun z => absurd (by decide) z⟩
      refine jaFor (C := fun i => ∀ B, B.1 72 0 = jvCp (S.1 72 0) 0 (S.1 91 0) (706 * k) 706 → B.1 75 0 = jvCp (S.1 75 0) 0 (S.1 92 0) (3192 * k) 3192 → B.1 76 0 = jvCp (S.1 76 0) 0 (S.1 93 0) (576 * k) i → jaFr [72, 75, 76, 78] [0, 33] S B → jc_M_restore_7 D kk (nI k) (nI i) (jaU σ 20 B)) (N := 576) ?_ (fun i hi ih => ?_) B b72 b75 (by rw [b76, jvCp_0]) f
      · clear b72 b75 b76 f B
        intro B b72 b75 b76 f
        apply jb_M_restore_7
        refine ⟨fun _ => ?_, fun z => absurd (by decide) z⟩
        refine jaFor (C := fun i => ∀ B, B.1 72 0 = jvCp (S.1 72 0) 0 (S.1 91 0) (706 * k) 706 → B.1 75 0 = jvCp (S.1 75 0) 0 (S.1 92 0) (3192 * k) 3192 → B.1 76 0 = jvCp (S.1 76 0) 0 (S.1 93 0) (576 * k) 576 → (∀ j, j < i → B.2 78 0 j = S.2 94 0 (16 * k + j)) → jaFr [72, 75, 76, 78] [0, 33] S B → jc_M_restore_9 D kk (nI k) (nI i) (jaU σ 20 B)) (N := 16) ?_ (fun i hi ih => ?_) B b72 b75 b76 (fun j hj => absurd hj (by omega)) f
        · clear b72 b75 b76 f B
          intro B b72 b75 b76 b78 f
          apply jb_M_restore_9
          simp (disch := first | omega | decide) only [jaU_eq, jaU_U, nI_add, pk_mul, jaIx_nI, vp_inT, true_and, and_true, ↓jaO0, ↓jaO1, nI_z, nI_z2, nI_z3, nI_z4, nI_z5, nI_lt', nI_le', nI_eq', jaUI_at, jaPt_eq, jaPt_ne, jaUI_o, jaUI_2, jaUL_at, jaUL_o, jaUL_1, jaB_z, jaB_1, ↓jaB_01, Classical.not_not, and_self, true_or, or_true, nI_11, Nat.reduceEqDiff, Nat.reduceAdd, Nat.reduceMul, Nat.add_zero, Nat.zero_add, Nat.mul_zero, not_true_eq_false, not_false_eq_true, false_implies, true_implies]
          refine ⟨fun _ => ?_, fun z => absurd (by decide) z⟩
          refine h _ ?_ ?_ ?_ ?_ ?_ (f.uf (by decide))
          · simp (disch := first | omega | decide) only [jaU_eq, jaU_U, nI_add, pk_mul, jaIx_nI, vp_inT, true_and, and_true, ↓jaO0, ↓jaO1, nI_z, nI_z2, nI_z3, nI_z4, nI_z5, nI_lt', nI_le', nI_eq', jaUI_at, jaPt_eq, jaPt_ne, jaUI_o, jaUI_2, jaUL_at, jaUL_o, jaUL_1, jaB_z, jaB_1, ↓jaB_01, Classical.not_not, and_self, true_or, or_true, nI_11, Nat.reduceEqDiff, Nat.reduceAdd, Nat.reduceMul, Nat.add_zero, Nat.zero_add, Nat.mul_zero, not_true_eq_false, not_false_eq_true, false_implies, true_implies, b72]
          · simp (disch := first | omega | decide) only [jaU_eq, jaU_U, nI_add, pk_mul, jaIx_nI, vp_inT, true_and, and_true, ↓jaO0, ↓jaO1, nI_z, nI_z2, nI_z3, nI_z4, nI_z5, nI_lt', nI_le', nI_eq', jaUI_at, jaPt_eq, jaPt_ne, jaUI_o, jaUI_2, jaUL_at, jaUL_o, jaUL_1, jaB_z, jaB_1, ↓jaB_01, Classical.not_not, and_self, true_or, or_true, nI_11, Nat.reduceEqDiff, Nat.reduceAdd, Nat.reduceMul, Nat.add_zero, Nat.zero_add, Nat.mul_zero, not_true_eq_false, not_false_eq_true, false_implies, true_implies, b75]
          · simp (disch := first | omega | decide) only [jaU_eq, jaU_U, nI_add, pk_mul, jaIx_nI, vp_inT, true_and, and_true, ↓jaO0, ↓jaO1, nI_z, nI_z2, nI_z3, nI_z4, nI_z5, nI_lt', nI_le', nI_eq', jaUI_at, jaPt_eq, jaPt_ne, jaUI_o, jaUI_2, jaUL_at, jaUL_o, jaUL_1, jaB_z, jaB_1, ↓jaB_01, Classical.not_not, and_self, true_or, or_true, nI_11, Nat.reduceEqDiff, Nat.reduceAdd, Nat.reduceMul, Nat.add_zero, Nat.zero_add, Nat.mul_zero, not_true_eq_false, not_false_eq_true, false_implies, true_implies, b76]
          · exact b78
          · simp (disch := first | omega | decide) only [jaU_eq, jaU_U, nI_add, pk_mul, jaIx_nI, vp_inT, true_and, and_true, ↓jaO0, ↓jaO1, nI_z, nI_z2, nI_z3, nI_z4, nI_z5, nI_lt', nI_le', nI_eq', jaUI_at, jaPt_eq, jaPt_ne, jaUI_o, jaUI_2, jaUL_at, jaUL_o, jaUL_1, jaB_z, jaB_1, ↓jaB_01, Classical.not_not, and_self, true_or, or_true, nI_11, Nat.reduceEqDiff, Nat.reduceAdd, Nat.reduceMul, Nat.add_zero, Nat.zero_add, Nat.mul_zero, not_true_eq_false, not_false_eq_true, false_implies, true_implies]
        · clear b72 b75 b76 f B
          intro B b72 b75 b76 b78 f
          apply jb_M_restore_9
          simp (disch := first | omega | decide) only [jaU_eq, jaU_U, nI_add, pk_mul, jaIx_nI, vp_inT, true_and, and_true, ↓jaO0, ↓jaO1, nI_z, nI_z2, nI_z3, nI_z4, nI_z5, nI_lt', nI_le', nI_eq', jaUI_at, jaPt_eq, jaPt_ne, jaUI_o, jaUI_2, jaUL_at, jaUL_o, jaUL_1, jaB_z, jaB_1, ↓jaB_01, Classical.not_not, and_self, true_or, or_true, nI_11, Nat.reduceEqDiff, Nat.reduceAdd, Nat.reduceMul, Nat.add_zero, Nat.zero_add, Nat.mul_zero, not_true_eq_false, not_false_eq_true, false_implies, true_implies]
          refine ⟨fun q => absurd q (by omega), fun _ => ?_⟩
          have g94 : B.2 94 0 = S.2 94 0 := congrFun (f.l 94 (by decide) (by decide)) 0
          refine ih _ b72 b75 b76 (fun j hj => ?_) (f.lo (by decide) (by decide))
          rw [jaUL_at]
          by_cases e : j = i
          · rw [e, jaPl_eq, g94]
          · rw [jaPl_ne e]
            exact b78 j (by omega)
      · clear b72 b75 b76 f B
        intro B b72 b75 b76 f
        apply jb_M_restore_7
        have g := congrFun (f.s 93 (by decide) (by decide)) 0
        simp (disch := first | omega | decide) only [jaU_eq, jaU_U, nI_add, pk_mul, jaIx_nI, vp_inT, true_and, and_true, ↓jaO0, ↓jaO1, nI_z, nI_z2, nI_z3, nI_z4, nI_z5, nI_lt', nI_le', nI_eq', jaUI_at, jaPt_eq, jaPt_ne, jaUI_o, jaUI_2, jaUL_at, jaUL_o, jaUL_1, jaB_z, jaB_1, ↓jaB_01, Classical.not_not, and_self, true_or, or_true, nI_11, Nat.reduceEqDiff, Nat.reduceAdd, Nat.reduceMul, Nat.add_zero, Nat.zero_add, Nat.mul_zero, not_true_eq_false, not_false_eq_true, false_implies, true_implies, g]
        refine ⟨fun z => absurd z (by omega), fun _ => ?_⟩
        refine ih _ ?_ ?_ ?_ (f.ui (by decide) (by decide))
        · simp (disch := first | omega | decide) only [jaU_eq, jaU_U, nI_add, pk_mul, jaIx_nI, vp_inT, true_and, and_true, ↓jaO0, ↓jaO1, nI_z, nI_z2, nI_z3, nI_z4, nI_z5, nI_lt', nI_le', nI_eq', jaUI_at, jaPt_eq, jaPt_ne, jaUI_o, jaUI_2, jaUL_at, jaUL_o, jaUL_1, jaB_z, jaB_1, ↓jaB_01, Classical.not_not, and_self, true_or, or_true, nI_11, Nat.reduceEqDiff, Nat.reduceAdd, Nat.reduceMul, Nat.add_zero, Nat.zero_add, Nat.mul_zero, not_true_eq_false, not_false_eq_true, false_implies, true_implies, b72]
        · simp (disch := first | omega | decide) only [jaU_eq, jaU_U, nI_add, pk_mul, jaIx_nI, vp_inT, true_and, and_true, ↓jaO0, ↓jaO1, nI_z, nI_z2, nI_z3, nI_z4, nI_z5, nI_lt', nI_le', nI_eq', jaUI_at, jaPt_eq, jaPt_ne, jaUI_o, jaUI_2, jaUL_at, jaUL_o, jaUL_1, jaB_z, jaB_1, ↓jaB_01, Classical.not_not, and_self, true_or, or_true, nI_11, Nat.reduceEqDiff, Nat.reduceAdd, Nat.reduceMul, Nat.add_zero, Nat.zero_add, Nat.mul_zero, not_true_eq_false, not_false_eq_true, false_implies, true_implies, b75]
        · rw [jaUI_at, b76, jvCp_s, Nat.zero_add]
    · clear b72 b75 b76 f B
      intro B b72 b75 b76 f
      apply jb_M_restore_5
      have g := congrFun (f.s 92 (by decide) (by decide)) 0
      simp (disch := first | omega | decide) only [jaU_eq, jaU_U, nI_add, pk_mul, jaIx_nI, vp_inT, true_and, and_true, ↓jaO0, ↓jaO1, nI_z, nI_z2, nI_z3, nI_z4, nI_z5, nI_lt', nI_le', nI_eq', jaUI_at, jaPt_eq, jaPt_ne, jaUI_o, jaUI_2, jaUL_at, jaUL_o, jaUL_1, jaB_z, jaB_1, ↓jaB_01, Classical.not_not, and_self, true_or, or_true, nI_11, Nat.reduceEqDiff, Nat.reduceAdd, Nat.reduceMul, Nat.add_zero, Nat.zero_add, Nat.mul_zero, not_true_eq_false, not_false_eq_true, false_implies, true_implies, g]
      refine ⟨fun z => absurd z (by omega), fun _ => ?_⟩
      refine ih _ ?_ ?_ ?_ (f.ui (by decide) (by decide))
      · simp (disch := first | omega | decide) only [jaU_eq, jaU_U, nI_add, pk_mul, jaIx_nI, vp_inT, true_and, and_true, ↓jaO0, ↓jaO1, nI_z, nI_z2, nI_z3, nI_z4, nI_z5, nI_lt', nI_le', nI_eq', jaUI_at, jaPt_eq, jaPt_ne, jaUI_o, jaUI_2, jaUL_at, jaUL_o, jaUL_1, jaB_z, jaB_1, ↓jaB_01, Classical.not_not, and_self, true_or, or_true, nI_11, Nat.reduceEqDiff, Nat.reduceAdd, Nat.reduceMul, Nat.add_zero, Nat.zero_add, Nat.mul_zero, not_true_eq_false, not_false_eq_true, false_implies, true_implies, b72]
      · rw [jaUI_at, b75, jvCp_s, Nat.zero_add]
      · simp (disch := first | omega | decide) only [jaU_eq, jaU_U, nI_add, pk_mul, jaIx_nI, vp_inT, true_and, and_true, ↓jaO0, ↓jaO1, nI_z, nI_z2, nI_z3, nI_z4, nI_z5, nI_lt', nI_le', nI_eq', jaUI_at, jaPt_eq, jaPt_ne, jaUI_o, jaUI_2, jaUL_at, jaUL_o, jaUL_1, jaB_z, jaB_1, ↓jaB_01, Classical.not_not, and_self, true_or, or_true, nI_11, Nat.reduceEqDiff, Nat.reduceAdd, Nat.reduceMul, Nat.add_zero, Nat.zero_add, Nat.mul_zero, not_true_eq_false, not_false_eq_true, false_implies, true_implies, b76]
  · intro B b72 b75 b76 f
    apply jb_M_restore_3
    have g := congrFun (f.s 91 (by decide) (by decide)) 0
    simp (disch := first | omega | decide) only [jaU_eq, jaU_U, nI_add, pk_mul, jaIx_nI, vp_inT, true_and, and_true, ↓jaO0, ↓jaO1, nI_z, nI_z2, nI_z3, nI_z4, nI_z5, nI_lt', nI_le', nI_eq', jaUI_at, jaPt_eq, jaPt_ne, jaUI_o, jaUI_2, jaUL_at, jaUL_o, jaUL_1, jaB_z, jaB_1, ↓jaB_01, Classical.not_not, and_self, true_or, or_true, nI_11, Nat.reduceEqDiff, Nat.reduceAdd, Nat.reduceMul, Nat.add_zero, Nat.zero_add, Nat.mul_zero, not_true_eq_false, not_false_eq_true, false_implies, true_implies, g]
    refine ⟨fun z => absurd z (by omega), fun _ => ?_⟩
    refine ih _ ?_ ?_ ?_ (f.ui (by decide) (by decide))
    · rw [jaUI_at, b72, jvCp_s, Nat.zero_add]
    · simp (disch := first | omega | decide) only [jaU_eq, jaU_U, nI_add, pk_mul, jaIx_nI, vp_inT, true_and, and_true, ↓jaO0, ↓jaO1, nI_z, nI_z2, nI_z3, nI_z4, nI_z5, nI_lt', nI_le', nI_eq', jaUI_at, jaPt_eq, jaPt_ne, jaUI_o, jaUI_2, jaUL_at, jaUL_o, jaUL_1, jaB_z, jaB_1, ↓jaB_01, Classical.not_not, and_self, true_or, or_true, nI_11, Nat.reduceEqDiff, Nat.reduceAdd, Nat.reduceMul, Nat.add_zero, Nat.zero_add, Nat.mul_zero, not_true_eq_false, not_false_eq_true, false_implies, true_implies, b75]
    · simp (disch := first | omega | decide) only [jaU_eq, jaU_U, nI_add, pk_mul, jaIx_nI, vp_inT, true_and, and_true, ↓jaO0, ↓jaO1, nI_z, nI_z2, nI_z3, nI_z4, nI_z5, nI_lt', nI_le', nI_eq', jaUI_at, jaPt_eq, jaPt_ne, jaUI_o, jaUI_2, jaUL_at, jaUL_o, jaUL_1, jaB_z, jaB_1, ↓jaB_01, Classical.not_not, and_self, true_or, or_true, nI_11, Nat.reduceEqDiff, Nat.reduceAdd, Nat.reduceMul, Nat.add_zero, Nat.zero_add, Nat.mul_zero, not_true_eq_false, not_false_eq_true, false_implies, true_implies, b76]
end
