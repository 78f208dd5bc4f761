section
/-! the reference: a WORLD begins, VALUES -/
theorem sp_M_world12 {D : Nat} {kk : Int32 → jaT → Prop} {σ : jaT} {S : jaS} {h0 s : jvA} {n : Nat} (h72 : ∀ j, S.1 72 0 j = jaIf1 (j < 31) (h0 j) (jaIf1 (j < 706) (nI 0) (s j))) (h22 : S.1 70 0 22 = nI n) (h : ∀ S', S'.1 72 0 = jvW0 s h0 → S'.1 70 0 33 = nI 0 → jaFr [72] [33] S S' → kk (nI n) (jaU σ 20 S')) : jc_M_world_12 D kk (nI 0) none (jaU σ 20 S) := by
  have V : ∀ q, q < 10 → ∀ r : jvA, (∀ j, j < 31 → r j = h0 j) → r (15 + q) = h0 (15 + q) := fun q hq r hr => hr _ (by omega)
  refine jaFor (C := fun k => ∀ u S', (∀ j, ((145 ≤ j ∧ j < 175 ∧ (j - 145) % 10 < k) ∨ (475 ≤ j ∧ j < 475 + k) → S'.1 72 0 j = jvW0 s h0 j) ∧ (¬ ((145 ≤ j ∧ j < 175 ∧ (j - 145) % 10 < k) ∨ (475 ≤ j ∧ j < 475 + k)) → S'.1 72 0 j = jaIf1 (j < 31) (h0 j) (jaIf1 (j < 706) (nI 0) (s j)))) → jaFr [72] [33] S S' → jc_M_world_12 D kk (nI k) u (jaU σ 20 S')) (N := 10) ?_ (fun k hk ih => ?_) none S (fun j => ⟨fun q => absurd q (by omega), fun _ => h72 j⟩) jaFr.rfl
  · intro u S' a f
    apply jb_M_world_12
    simp (disch := first | omega | decide) only [jaU_eq, jaU_U, nI_add, pk_mul, jaIx_nI, vp_inT, true_and, and_true, ↓jaO0, ↓jaO1, nI_z, nI_z2, nI_z3, nI_z4, nI_z5, nI_lt', nI_le', nI_eq', jaUI_at, jaPt_eq, jaPt_ne, jaUI_o, jaUI_2, jaUL_at, jaUL_o, jaUL_1, jaB_z, jaB_1, ↓jaB_01, Classical.not_not, and_self, true_or, or_true, nI_11, Nat.reduceEqDiff, Nat.reduceAdd, Nat.reduceMul, Nat.add_zero, Nat.zero_add, Nat.mul_zero, not_true_eq_false, not_false_eq_true, false_implies, true_implies, f.f 22 (by decide), h22]
    refine ⟨fun _ => ?_, fun q => absurd (by omega) q⟩
    refine h _ ?_ (by simp (disch := first | omega | decide) only [jaU_eq, jaU_U, nI_add, pk_mul, jaIx_nI, vp_inT, true_and, and_true, ↓jaO0, ↓jaO1, nI_z, nI_z2, nI_z3, nI_z4, nI_z5, nI_lt', nI_le', nI_eq', jaUI_at, jaPt_eq, jaPt_ne, jaUI_o, jaUI_2, jaUL_at, jaUL_o, jaUL_1, jaB_z, jaB_1, ↓jaB_01, Classical.not_not, and_self, true_or, or_true, nI_11, Nat.reduceEqDiff, Nat.reduceAdd, Nat.reduceMul, Nat.add_zero, Nat.zero_add, Nat.mul_zero, not_true_eq_false, not_false_eq_true, false_implies, true_implies]) (f.uf (by decide))
    funext j
    rw [jaUI_o (by decide)]
    by_cases q : (145 ≤ j ∧ j < 175 ∧ (j - 145) % 10 < 10) ∨ (475 ≤ j ∧ j < 475 + 10)
    · exact (a j).1 q
    · rw [(a j).2 q]
      unfold jvW0
      rw [jaIf1_f (p := 145 ≤ j ∧ j < 175) (by omega), jaIf1_f (p := 475 ≤ j ∧ j < 485) (by omega)]
  · intro u S' a f
    apply jb_M_world_12
    simp (disch := first | omega | decide) only [jaU_eq, jaU_U, nI_add, pk_mul, jaIx_nI, vp_inT, true_and, and_true, ↓jaO0, ↓jaO1, nI_z, nI_z2, nI_z3, nI_z4, nI_z5, nI_lt', nI_le', nI_eq', jaUI_at, jaPt_eq, jaPt_ne, jaUI_o, jaUI_2, jaUL_at, jaUL_o, jaUL_1, jaB_z, jaB_1, ↓jaB_01, Classical.not_not, and_self, true_or, or_true, nI_11, Nat.reduceEqDiff, Nat.reduceAdd, Nat.reduceMul, Nat.add_zero, Nat.zero_add, Nat.mul_zero, not_true_eq_false, not_false_eq_true, false_implies, true_implies]
    refine ⟨fun q => absurd q (by omega), fun _ => ?_⟩
    refine jaFor (C := fun c => ∀ S', (∀ j, ((145 ≤ j ∧ j < 175 ∧ (j - 145) % 10 < k) ∨ (475 ≤ j ∧ j < 475 + k) ∨ (145 ≤ j ∧ j < 145 + 10 * c ∧ (j - 145) % 10 = k) → S'.1 72 0 j = jvW0 s h0 j) ∧ (¬ ((145 ≤ j ∧ j < 175 ∧ (j - 145) % 10 < k) ∨ (475 ≤ j ∧ j < 475 + k) ∨ (145 ≤ j ∧ j < 145 + 10 * c ∧ (j - 145) % 10 = k)) → S'.1 72 0 j = jaIf1 (j < 31) (h0 j) (jaIf1 (j < 706) (nI 0) (s j)))) → jaFr [72] [33] S S' → jc_M_world_13 D kk (nI k) (nI c) (jaU σ 20 S')) (N := 3) ?_ (fun c hc ih2 => ?_) S' (fun j => ⟨fun q => (a j).1 (by omega), fun q => (a j).2 (by omega)⟩) f
    · intro S' a f
      have e15 : S'.1 72 0 (15 + k) = h0 (15 + k) := by rw [(a _).2 (by omega), jaIf1_t (by omega)]
      apply jb_M_world_13
      simp (disch := first | omega | decide) only [jaU_eq, jaU_U, nI_add, pk_mul, jaIx_nI, vp_inT, true_and, and_true, ↓jaO0, ↓jaO1, nI_z, nI_z2, nI_z3, nI_z4, nI_z5, nI_lt', nI_le', nI_eq', jaUI_at, jaPt_eq, jaPt_ne, jaUI_o, jaUI_2, jaUL_at, jaUL_o, jaUL_1, jaB_z, jaB_1, ↓jaB_01, Classical.not_not, and_self, true_or, or_true, nI_11, Nat.reduceEqDiff, Nat.reduceAdd, Nat.reduceMul, Nat.add_zero, Nat.zero_add, Nat.mul_zero, not_true_eq_false, not_false_eq_true, false_implies, true_implies, e15]
      refine ⟨fun _ => ?_, fun q => absurd (by omega) q⟩
      refine ih _ _ (fun j => ⟨fun q => ?_, fun q => ?_⟩) (f.ui (by decide) (by decide))
      · rw [jaUI_at]
        by_cases y : j = 475 + k
        · rw [y, jaPt_eq, jvW0_d hk]
        · rw [jaPt_ne y]
          exact (a j).1 (by omega)
      · rw [jaUI_at, jaPt_ne (by omega)]
        exact (a j).2 (by omega)
    · intro S' a f
      have e15 : S'.1 72 0 (15 + k) = h0 (15 + k) := by rw [(a _).2 (by omega), jaIf1_t (by omega)]
      apply jb_M_world_13
      simp (disch := first | omega | decide) only [jaU_eq, jaU_U, nI_add, pk_mul, jaIx_nI, vp_inT, true_and, and_true, ↓jaO0, ↓jaO1, nI_z, nI_z2, nI_z3, nI_z4, nI_z5, nI_lt', nI_le', nI_eq', jaUI_at, jaPt_eq, jaPt_ne, jaUI_o, jaUI_2, jaUL_at, jaUL_o, jaUL_1, jaB_z, jaB_1, ↓jaB_01, Classical.not_not, and_self, true_or, or_true, nI_11, Nat.reduceEqDiff, Nat.reduceAdd, Nat.reduceMul, Nat.add_zero, Nat.zero_add, Nat.mul_zero, not_true_eq_false, not_false_eq_true, false_implies, true_implies, e15]
      refine ⟨fun q => absurd q (by omega), fun _ => ?_⟩
      refine ih2 _ (fun j => ⟨fun q => ?_, fun q => ?_⟩) (f.ui (by decide) (by decide))
      · rw [jaUI_at]
        by_cases y : j = 145 + 10 * c + k
        · rw [y, jaPt_eq, jvW0_b hc hk]
        · rw [jaPt_ne y]
          exact (a j).1 (by omega)
      · rw [jaUI_at, jaPt_ne (by omega)]
        exact (a j).2 (by omega)
end
