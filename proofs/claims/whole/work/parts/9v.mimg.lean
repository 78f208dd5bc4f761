section
/-! the reference: images -/
set_option maxHeartbeats 2000000 in
theorem sp_M_image {D : Nat} (hD : 2 ≤ D) {kk : Int32 → jaT → Prop} {σ : jaT} {S : jaS} {k : Nat} (hk : k < 2) (h : ∀ B : jaS, B.1 91 0 = jvCp (S.1 91 0) (706 * k) (S.1 72 0) 0 706 → B.1 92 0 = jvCp (S.1 92 0) (3192 * k) (S.1 75 0) 0 3192 → B.1 93 0 = jvCp (S.1 93 0) (576 * k) (S.1 76 0) 0 576 → (∀ j, j < 16 → B.2 94 0 (16 * k + j) = S.2 78 0 j) → (∀ j, j < 16 * k ∨ 16 * k + 16 ≤ j → B.2 94 0 j = S.2 94 0 j) → B.1 95 0 = jaPt (S.1 95 0) k (nI 1) → jaFr [91, 92, 93, 94, 95] [0] S B → kk (nI 1) (jaU σ 20 B)) : jaDe D jy_M_image [jaMo, .inl (nI k)] (jaU σ 20 S) (jaKi kk) := by
  obtain ⟨D, rfl, hD⟩ := jaSuc hD
  apply js_M_image
  simp (disch := first | omega | decide) only [jaU_eq, jaU_U, nI_add, pk_mul, jaIx_nI, vp_inT, true_and, and_true, ↓jaO0, ↓jaO1, nI_z, nI_z2, nI_z3, nI_z4, nI_z5, nI_lt', nI_le', nI_eq', jaUI_at, jaPt_eq, jaPt_ne, jaUI_o, jaUI_2, jaUL_at, jaUL_o, jaUL_1, jaB_z, jaB_1, ↓jaB_01, Classical.not_not, and_self, true_or, or_true, nI_11, Nat.reduceEqDiff, Nat.reduceAdd, Nat.reduceMul, Nat.add_zero, Nat.zero_add, Nat.mul_zero, not_true_eq_false, not_false_eq_true, false_implies, true_implies]
  refine sp_M_isIn (by omega) ?_
  have e : (¬ nI k < nI 0 ∧ ¬ nI 1 < nI k) ↔ True := by
    rw [nI_lt' (by omega) (by omega), nI_lt' (by omega) (by omega)]
    exact ⟨fun _ => trivial, fun _ => by omega⟩
  rw [jaB_c e, jaB_t trivial]
  refine ⟨fun _ => ?_, fun z => absurd z (by decide)⟩
  have f0 : jaFr [91, 92, 93, 94, 95] [0] S (jaUI S 70 0 0 (nI 0)) := jaFr.rfl.uf (by decide)
  refine jaFor (C := fun i => ∀ B, B.1 91 0 = jvCp (S.1 91 0) (706 * k) (S.1 72 0) 0 i → B.1 92 0 = S.1 92 0 → B.1 93 0 = S.1 93 0 → B.1 95 0 = S.1 95 0 → B.2 94 0 = S.2 94 0 → jaFr [91, 92, 93, 94, 95] [0] S B → jc_M_image_2 D kk (nI k) (nI i) (jaU σ 20 B)) (N := 706) ?_ (fun i hi ih => ?_) (jaUI S 70 0 0 (nI 0)) (by simp (disch := first | omega | decide) only [jaU_eq, jaU_U, nI_add, pk_mul, jaIx_nI, vp_inT, true_and, and_true, ↓jaO0, ↓jaO1, nI_z, nI_z2, nI_z3, nI_z4, nI_z5, nI_lt', nI_le', nI_eq', jaUI_at, jaPt_eq, jaPt_ne, jaUI_o, jaUI_2, jaUL_at, jaUL_o, jaUL_1, jaB_z, jaB_1, ↓jaB_01, Classical.not_not, and_self, true_or, or_true, nI_11, Nat.reduceEqDiff, Nat.reduceAdd, Nat.reduceMul, Nat.add_zero, Nat.zero_add, Nat.mul_zero, not_true_eq_false, not_false_eq_true, false_implies, true_implies, jvCp_0]) (by simp (disch := first | omega | decide) only [jaU_eq, jaU_U, nI_add, pk_mul, jaIx_nI, vp_inT, true_and, and_true, ↓jaO0, ↓jaO1, nI_z, nI_z2, nI_z3, nI_z4, nI_z5, nI_lt', nI_le', nI_eq', jaUI_at, jaPt_eq, jaPt_ne, jaUI_o, jaUI_2, jaUL_at, jaUL_o, jaUL_1, jaB_z, jaB_1, ↓jaB_01, Classical.not_not, and_self, true_or, or_true, nI_11, Nat.reduceEqDiff, Nat.reduceAdd, Nat.reduceMul, Nat.add_zero, Nat.zero_add, Nat.mul_zero, not_true_eq_false, not_false_eq_true, false_implies, true_implies]) (by simp (disch := first | omega | decide) only [jaU_eq, jaU_U, nI_add, pk_mul, jaIx_nI, vp_inT, true_and, and_true, ↓jaO0, ↓jaO1, nI_z, nI_z2, nI_z3, nI_z4, nI_z5, nI_lt', nI_le', nI_eq', jaUI_at, jaPt_eq, jaPt_ne, jaUI_o, jaUI_2, jaUL_at, jaUL_o, jaUL_1, jaB_z, jaB_1, ↓jaB_01, Classical.not_not, and_self, true_or, or_true, nI_11, Nat.reduceEqDiff, Nat.reduceAdd, Nat.reduceMul, Nat.add_zero, Nat.zero_add, Nat.mul_zero, not_true_eq_false, not_false_eq_true, false_implies, true_implies]) (by simp (disch := first | omega | decide) only [jaU_eq, jaU_U, nI_add, pk_mul, jaIx_nI, vp_inT, true_and, and_true, ↓jaO0, ↓jaO1, nI_z, nI_z2, nI_z3, nI_z4, nI_z5, nI_lt', nI_le', nI_eq', jaUI_at, jaPt_eq, jaPt_ne, jaUI_o, jaUI_2, jaUL_at, jaUL_o, jaUL_1, jaB_z, jaB_1, ↓jaB_01, Classical.not_not, and_self, true_or, or_true, nI_11, Nat.reduceEqDiff, Nat.reduceAdd, Nat.reduceMul, Nat.add_zero, Nat.zero_add, Nat.mul_zero, not_true_eq_false, not_false_eq_true, false_implies, true_implies]) (by rfl) f0
  · intro B b91 b92 b93 b95 b94 f
    apply jb_M_image_2
    refine ⟨fun _ => ?_, fun z => absurd (by decide) z⟩
    refine jaFor (C := fun i => ∀ B, B.1 91 0 = jvCp (S.1 91 0) (706 * k) (S.1 72 0) 0 706 → B.1 92 0 = jvCp (S.1 92 0) (3192 * k) (S.1 75 0) 0 i → B.1 93 0 = S.1 93 0 → B.1 95 0 = S.1 95 0 → B.2 94 0 = S.2 94 0 → jaFr [91, 92, 93, 94, 95] [0] S B → jc_M_image_4 D kk (nI k) (nI i) (jaU σ 20 B)) (N := 3192) ?_ (fun i hi ih => ?_) B b91 (by rw [b92, jvCp_0]) b93 b95 b94 f
    · clear b91 b92 b93 b95 b94 f B
      intro B b91 b92 b93 b95 b94 f
      apply jb_M_image_4
      refine ⟨fun _ => ?_, fun z => absurd (by decide) z⟩
      refine jaFor (C := fun i => ∀ B, B.1 91 0 = jvCp (S.1 91 0) (706 * k) (S.1 72 0) 0 706 → B.1 92 0 = jvCp (S.1 92 0) (3192 * k) (S.1 75 0) 0 3192 → B.1 93 0 = jvCp (S.1 93 0) (576 * k) (S.1 76 0) 0 i → B.1 95 0 = S.1 95 0 → B.2 94 0 = S.2 94 0 → jaFr [91, 92, 93, 94, 95] [0] S B → jc_M_image_6 D kk (nI k) (nI i) (jaU σ 20 B)) (N := 576) ?_ (fun i hi ih => ?_) B b91 b92 (by rw [b93, jvCp_0]) b95 b94 f
      · clear b91 b92 b93 b95 b94 f B
        intro B b91 b92 b93 b95 b94 f
        apply jb_M_image_6
        refine ⟨fun _ => ?_, fun z => absurd (by decide) z⟩
        refine jaFor (C := fun i => ∀ B, B.1 91 0 = jvCp (S.1 91 0) (706 * k) (S.1 72 0) 0 706 → B.1 92 0 = jvCp (S.1 92 0) (3192 * k) (S.1 75 0) 0 3192 → B.1 93 0 = jvCp (S.1 93 0) (576 * k) (S.1 76 0) 0 576 → B.1 95 0 = S.1 95 0 → (∀ j, j < i → B.2 94 0 (16 * k + j) = S.2 78 0 j) → (∀ j, j < 16 * k ∨ 16 * k + 16 ≤ j → B.2 94 0 j = S.2 94 0 j) → jaFr [91, 92, 93, 94, 95] [0] S B → jc_M_image_8 D kk (nI k) (nI i) (jaU σ 20 B)) (N := 16) ?_ (fun i hi ih => ?_) B b91 b92 b93 b95 (fun j hj => absurd hj (by omega)) (fun j _ => by rw [b94]) f
        · clear b91 b92 b93 b95 b94 f B
          intro B b91 b92 b93 b95 b94 b94' f
          apply jb_M_image_8
          simp (disch := first | omega | decide) only [jaU_eq, jaU_U, nI_add, pk_mul, jaIx_nI, vp_inT, true_and, and_true, ↓jaO0, ↓jaO1, nI_z, nI_z2, nI_z3, nI_z4, nI_z5, nI_lt', nI_le', nI_eq', jaUI_at, jaPt_eq, jaPt_ne, jaUI_o, jaUI_2, jaUL_at, jaUL_o, jaUL_1, jaB_z, jaB_1, ↓jaB_01, Classical.not_not, and_self, true_or, or_true, nI_11, Nat.reduceEqDiff, Nat.reduceAdd, Nat.reduceMul, Nat.add_zero, Nat.zero_add, Nat.mul_zero, not_true_eq_false, not_false_eq_true, false_implies, true_implies]
          refine ⟨fun _ => ?_, fun z => absurd (by decide) z⟩
          refine h _ ?_ ?_ ?_ ?_ ?_ ?_ (f.ui (by decide) (by decide))
          · simp (disch := first | omega | decide) only [jaU_eq, jaU_U, nI_add, pk_mul, jaIx_nI, vp_inT, true_and, and_true, ↓jaO0, ↓jaO1, nI_z, nI_z2, nI_z3, nI_z4, nI_z5, nI_lt', nI_le', nI_eq', jaUI_at, jaPt_eq, jaPt_ne, jaUI_o, jaUI_2, jaUL_at, jaUL_o, jaUL_1, jaB_z, jaB_1, ↓jaB_01, Classical.not_not, and_self, true_or, or_true, nI_11, Nat.reduceEqDiff, Nat.reduceAdd, Nat.reduceMul, Nat.add_zero, Nat.zero_add, Nat.mul_zero, not_true_eq_false, not_false_eq_true, false_implies, true_implies, b91]
          · simp (disch := first | omega | decide) only [jaU_eq, jaU_U, nI_add, pk_mul, jaIx_nI, vp_inT, true_and, and_true, ↓jaO0, ↓jaO1, nI_z, nI_z2, nI_z3, nI_z4, nI_z5, nI_lt', nI_le', nI_eq', jaUI_at, jaPt_eq, jaPt_ne, jaUI_o, jaUI_2, jaUL_at, jaUL_o, jaUL_1, jaB_z, jaB_1, ↓jaB_01, Classical.not_not, and_self, true_or, or_true, nI_11, Nat.reduceEqDiff, Nat.reduceAdd, Nat.reduceMul, Nat.add_zero, Nat.zero_add, Nat.mul_zero, not_true_eq_false, not_false_eq_true, false_implies, true_implies, b92]
          · simp (disch := first | omega | decide) only [jaU_eq, jaU_U, nI_add, pk_mul, jaIx_nI, vp_inT, true_and, and_true, ↓jaO0, ↓jaO1, nI_z, nI_z2, nI_z3, nI_z4, nI_z5, nI_lt', nI_le', nI_eq', jaUI_at, jaPt_eq, jaPt_ne, jaUI_o, jaUI_2, jaUL_at, jaUL_o, jaUL_1, jaB_z, jaB_1, ↓jaB_01, Classical.not_not, and_self, true_or, or_true, nI_11, Nat.reduceEqDiff, Nat.reduceAdd, Nat.reduceMul, Nat.add_zero, Nat.zero_add, Nat.mul_zero, not_true_eq_false, not_false_eq_true, false_implies, true_implies, b93]
          · exact b94
          · exact b94'
          · simp (disch := first | omega | decide) only [jaU_eq, jaU_U, nI_add, pk_mul, jaIx_nI, vp_inT, true_and, and_true, ↓jaO0, ↓jaO1, nI_z, nI_z2, nI_z3, nI_z4, nI_z5, nI_lt', nI_le', nI_eq', jaUI_at, jaPt_eq, jaPt_ne, jaUI_o, jaUI_2, jaUL_at, jaUL_o, jaUL_1, jaB_z, jaB_1, ↓jaB_01, Classical.not_not, and_self, true_or, or_true, nI_11, Nat.reduceEqDiff, Nat.reduceAdd, Nat.reduceMul, Nat.add_zero, Nat.zero_add, Nat.mul_zero, not_true_eq_false, not_false_eq_true, false_implies, true_implies, b95]
        · clear b91 b92 b93 b95 b94 f B
          intro B b91 b92 b93 b95 b94 b94' f
          apply jb_M_image_8
          simp (disch := first | omega | decide) only [jaU_eq, jaU_U, nI_add, pk_mul, jaIx_nI, vp_inT, true_and, and_true, ↓jaO0, ↓jaO1, nI_z, nI_z2, nI_z3, nI_z4, nI_z5, nI_lt', nI_le', nI_eq', jaUI_at, jaPt_eq, jaPt_ne, jaUI_o, jaUI_2, jaUL_at, jaUL_o, jaUL_1, jaB_z, jaB_1, ↓jaB_01, Classical.not_not, and_self, true_or, or_true, nI_11, Nat.reduceEqDiff, Nat.reduceAdd, Nat.reduceMul, Nat.add_zero, Nat.zero_add, Nat.mul_zero, not_true_eq_false, not_false_eq_true, false_implies, true_implies]
          refine ⟨fun q => absurd q (by omega), fun _ => ?_⟩
          have g78 : B.2 78 0 = S.2 78 0 := congrFun (f.l 78 (by decide) (by decide)) 0
          refine ih _ b91 b92 b93 b95 (fun j hj => ?_) (fun j hj => ?_) (f.lo (by decide) (by decide))
          · rw [jaUL_at]
            unfold jaPl
            by_cases e : j = i
            · rw [if_pos (by omega), e, g78]
            · rw [if_neg (by omega)]
              exact b94 j (by omega)
          · rw [jaUL_at]
            unfold jaPl
            rw [if_neg (by omega)]
            exact b94' j hj
      · clear b91 b92 b93 b95 b94 f B
        intro B b91 b92 b93 b95 b94 f
        apply jb_M_image_6
        have g := congrFun (f.s 76 (by decide) (by decide)) 0
        simp (disch := first | omega | decide) only [jaU_eq, jaU_U, nI_add, pk_mul, jaIx_nI, vp_inT, true_and, and_true, ↓jaO0, ↓jaO1, nI_z, nI_z2, nI_z3, nI_z4, nI_z5, nI_lt', nI_le', nI_eq', jaUI_at, jaPt_eq, jaPt_ne, jaUI_o, jaUI_2, jaUL_at, jaUL_o, jaUL_1, jaB_z, jaB_1, ↓jaB_01, Classical.not_not, and_self, true_or, or_true, nI_11, Nat.reduceEqDiff, Nat.reduceAdd, Nat.reduceMul, Nat.add_zero, Nat.zero_add, Nat.mul_zero, not_true_eq_false, not_false_eq_true, false_implies, true_implies, g]
        refine ⟨fun z => absurd z (by omega), fun _ => ?_⟩
        refine ih _ ?_ ?_ ?_ ?_ b94 (f.ui (by decide) (by decide))
        · simp (disch := first | omega | decide) only [jaU_eq, jaU_U, nI_add, pk_mul, jaIx_nI, vp_inT, true_and, and_true, ↓jaO0, ↓jaO1, nI_z, nI_z2, nI_z3, nI_z4, nI_z5, nI_lt', nI_le', nI_eq', jaUI_at, jaPt_eq, jaPt_ne, jaUI_o, jaUI_2, jaUL_at, jaUL_o, jaUL_1, jaB_z, jaB_1, ↓jaB_01, Classical.not_not, and_self, true_or, or_true, nI_11, Nat.reduceEqDiff, Nat.reduceAdd, Nat.reduceMul, Nat.add_zero, Nat.zero_add, Nat.mul_zero, not_true_eq_false, not_false_eq_true, false_implies, true_implies, b91]
        · simp (disch := first | omega | decide) only [jaU_eq, jaU_U, nI_add, pk_mul, jaIx_nI, vp_inT, true_and, and_true, ↓jaO0, ↓jaO1, nI_z, nI_z2, nI_z3, nI_z4, nI_z5, nI_lt', nI_le', nI_eq', jaUI_at, jaPt_eq, jaPt_ne, jaUI_o, jaUI_2, jaUL_at, jaUL_o, jaUL_1, jaB_z, jaB_1, ↓jaB_01, Classical.not_not, and_self, true_or, or_true, nI_11, Nat.reduceEqDiff, Nat.reduceAdd, Nat.reduceMul, Nat.add_zero, Nat.zero_add, Nat.mul_zero, not_true_eq_false, not_false_eq_true, false_implies, true_implies, b92]
        · rw [jaUI_at, b93, jvCp_s, Nat.zero_add]
        · simp (disch := first | omega | decide) only [jaU_eq, jaU_U, nI_add, pk_mul, jaIx_nI, vp_inT, true_and, and_true, ↓jaO0, ↓jaO1, nI_z, nI_z2, nI_z3, nI_z4, nI_z5, nI_lt', nI_le', nI_eq', jaUI_at, jaPt_eq, jaPt_ne, jaUI_o, jaUI_2, jaUL_at, jaUL_o, jaUL_1, jaB_z, jaB_1, ↓jaB_01, Classical.not_not, and_self, true_or, or_true, nI_11, Nat.reduceEqDiff, Nat.reduceAdd, Nat.reduceMul, Nat.add_zero, Nat.zero_add, Nat.mul_zero, not_true_eq_false, not_false_eq_true, false_implies, true_implies, b95]
    · clear b91 b92 b93 b95 b94 f B
      intro B b91 b92 b93 b95 b94 f
      apply jb_M_image_4
      have g := congrFun (f.s 75 (by decide) (by decide)) 0
      simp (disch := first | omega | decide) only [jaU_eq, jaU_U, nI_add, pk_mul, jaIx_nI, vp_inT, true_and, and_true, ↓jaO0, ↓jaO1, nI_z, nI_z2, nI_z3, nI_z4, nI_z5, nI_lt', nI_le', nI_eq', jaUI_at, jaPt_eq, jaPt_ne, jaUI_o, jaUI_2, jaUL_at, jaUL_o, jaUL_1, jaB_z, jaB_1, ↓jaB_01, Classical.not_not, and_self, true_or, or_true, nI_11, Nat.reduceEqDiff, Nat.reduceAdd, Nat.reduceMul, Nat.add_zero, Nat.zero_add, Nat.mul_zero, not_true_eq_false, not_false_eq_true, false_implies, true_implies, g]
      refine ⟨fun z => absurd z (by omega), fun _ => ?_⟩
      refine ih _ ?_ ?_ ?_ ?_ b94 (f.ui (by decide) (by decide))
      · simp (disch := first | omega | decide) only [jaU_eq, jaU_U, nI_add, pk_mul, jaIx_nI, vp_inT, true_and, and_true, ↓jaO0, ↓jaO1, nI_z, nI_z2, nI_z3, nI_z4, nI_z5, nI_lt', nI_le', nI_eq', jaUI_at, jaPt_eq, jaPt_ne, jaUI_o, jaUI_2, jaUL_at, jaUL_o, jaUL_1, jaB_z, jaB_1, ↓jaB_01, Classical.not_not, and_self, true_or, or_true, nI_11, Nat.reduceEqDiff, Nat.reduceAdd, Nat.reduceMul, Nat.add_zero, Nat.zero_add, Nat.mul_zero, not_true_eq_false, not_false_eq_true, false_implies, true_implies, b91]
      · rw [jaUI_at, b92, jvCp_s, Nat.zero_add]
      · simp (disch := first | omega | decide) only [jaU_eq, jaU_U, nI_add, pk_mul, jaIx_nI, vp_inT, true_and, and_true, ↓jaO0, ↓jaO1, nI_z, nI_z2, nI_z3, nI_z4, nI_z5, nI_lt', nI_le', nI_eq', jaUI_at, jaPt_eq, jaPt_ne, jaUI_o, jaUI_2, jaUL_at, jaUL_o, jaUL_1, jaB_z, jaB_1, ↓jaB_01, Classical.not_not, and_self, true_or, or_true, nI_11, Nat.reduceEqDiff, Nat.reduceAdd, Nat.reduceMul, Nat.add_zero, Nat.zero_add, Nat.mul_zero, not_true_eq_false, not_false_eq_true, false_implies, true_implies, b93]
      · simp (disch := first | omega | decide) only [jaU_eq, jaU_U, nI_add, pk_mul, jaIx_nI, vp_inT, true_and, and_true, ↓jaO0, ↓jaO1, nI_z, nI_z2, nI_z3, nI_z4, nI_z5, nI_lt', nI_le', nI_eq', jaUI_at, jaPt_eq, jaPt_ne, jaUI_o, jaUI_2, jaUL_at, jaUL_o, jaUL_1, jaB_z, jaB_1, ↓jaB_01, Classical.not_not, and_self, true_or, or_true, nI_11, Nat.reduceEqDiff, Nat.reduceAdd, Nat.reduceMul, Nat.add_zero, Nat.zero_add, Nat.mul_zero, not_true_eq_false, not_false_eq_true, false_implies, true_implies, b95]
  · intro B b91 b92 b93 b95 b94 f
    apply jb_M_image_2
    have g := congrFun (f.s 72 (by decide) (by decide)) 0
    simp (disch := first | omega | decide) only [jaU_eq, jaU_U, nI_add, pk_mul, jaIx_nI, vp_inT, true_and, and_true, ↓jaO0, ↓jaO1, nI_z, nI_z2, nI_z3, nI_z4, nI_z5, nI_lt', nI_le', nI_eq', jaUI_at, jaPt_eq, jaPt_ne, jaUI_o, jaUI_2, jaUL_at, jaUL_o, jaUL_1, jaB_z, jaB_1, ↓jaB_01, Classical.not_not, and_self, true_or, or_true, nI_11, Nat.reduceEqDiff, Nat.reduceAdd, Nat.reduceMul, Nat.add_zero, Nat.zero_add, Nat.mul_zero, not_true_eq_false, not_false_eq_true, false_implies, true_implies, g]
    refine ⟨fun z => absurd z (by omega), fun _ => ?_⟩
    refine ih _ ?_ ?_ ?_ ?_ b94 (f.ui (by decide) (by decide))
    · rw [jaUI_at, b91, jvCp_s, Nat.zero_add]
    · simp (disch := first | omega | decide) only [jaU_eq, jaU_U, nI_add, pk_mul, jaIx_nI, vp_inT, true_and, and_true, ↓jaO0, ↓jaO1, nI_z, nI_z2, nI_z3, nI_z4, nI_z5, nI_lt', nI_le', nI_eq', jaUI_at, jaPt_eq, jaPt_ne, jaUI_o, jaUI_2, jaUL_at, jaUL_o, jaUL_1, jaB_z, jaB_1, ↓jaB_01, Classical.not_not, and_self, true_or, or_true, nI_11, Nat.reduceEqDiff, Nat.reduceAdd, Nat.reduceMul, Nat.add_zero, Nat.zero_add, Nat.mul_zero, not_true_eq_false, not_false_eq_true, false_implies, true_implies, b92]
    · simp (disch := first | omega | decide) only [jaU_eq, jaU_U, nI_add, pk_mul, jaIx_nI, vp_inT, true_and, and_true, ↓jaO0, ↓jaO1, nI_z, nI_z2, nI_z3, nI_z4, nI_z5, nI_lt', nI_le', nI_eq', jaUI_at, jaPt_eq, jaPt_ne, jaUI_o, jaUI_2, jaUL_at, jaUL_o, jaUL_1, jaB_z, jaB_1, ↓jaB_01, Classical.not_not, and_self, true_or, or_true, nI_11, Nat.reduceEqDiff, Nat.reduceAdd, Nat.reduceMul, Nat.add_zero, Nat.zero_add, Nat.mul_zero, not_true_eq_false, not_false_eq_true, false_implies, true_implies, b93]
    · simp (disch := first | omega | decide) only [jaU_eq, jaU_U, nI_add, pk_mul, jaIx_nI, vp_inT, true_and, and_true, ↓jaO0, ↓jaO1, nI_z, nI_z2, nI_z3, nI_z4, nI_z5, nI_lt', nI_le', nI_eq', jaUI_at, jaPt_eq, jaPt_ne, jaUI_o, jaUI_2, jaUL_at, jaUL_o, jaUL_1, jaB_z, jaB_1, ↓jaB_01, Classical.not_not, and_self, true_or, or_true, nI_11, Nat.reduceEqDiff, Nat.reduceAdd, Nat.reduceMul, Nat.add_zero, Nat.zero_add, Nat.mul_zero, not_true_eq_false, not_false_eq_true, false_implies, true_implies, b95]
end
