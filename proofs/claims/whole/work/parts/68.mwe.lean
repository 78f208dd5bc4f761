section
/-! the reference: a WORLD begins -/
theorem sp_M_world6 {D : Nat} {kk : Int32 → jaT → Prop} {σ : jaT} {S : jaS} {h0 s : jvA} (h73 : ∀ j, j < 31 → S.1 73 0 j = h0 j) (h72 : S.1 72 0 = s) (h : ∀ S', (∀ j, j < 706 → S'.1 72 0 j = jaIf1 (j < 31) (h0 j) (nI 0)) → (∀ j, 706 ≤ j → S'.1 72 0 j = s j) → jaFr [72] [] S S' → jc_M_world_10 D kk (nI 0) (jaU σ 20 S')) : jc_M_world_6 D kk (nI 0) (jaU σ 20 S) := by
  refine jaFor (C := fun i => ∀ S', (∀ j, j < i → S'.1 72 0 j = jaIf1 (j < 31) (h0 j) (nI 0)) → (∀ j, 706 ≤ j → S'.1 72 0 j = s j) → jaFr [72] [] S S' → jc_M_world_6 D kk (nI i) (jaU σ 20 S')) (N := 706) ?_ (fun i hi ih => ?_) S (fun _ q => absurd q (by omega)) (fun j _ => by rw [h72]) jaFr.rfl
  · intro S' a b f
    apply jb_M_world_6
    simp (disch := first | omega | decide) only [jaU_eq, jaU_U, nI_add, pk_mul, jaIx_nI, vp_inT, true_and, and_true, ↓jaO0, ↓jaO1, nI_z, nI_z2, nI_z3, nI_z4, nI_z5, nI_lt', nI_le', nI_eq', jaUI_at, jaPt_eq, jaPt_ne, jaUI_o, jaUI_2, jaUL_at, jaUL_o, jaUL_1, jaB_z, jaB_1, ↓jaB_01, Classical.not_not, and_self, true_or, or_true, nI_11, Nat.reduceEqDiff, Nat.reduceAdd, Nat.reduceMul, Nat.add_zero, Nat.zero_add, Nat.mul_zero, not_true_eq_false, not_false_eq_true, false_implies, true_implies]
    refine ⟨fun _ => ?_, fun q => absurd (by omega) q⟩
    exact h S' a b f
  · intro S' a b f
    apply jb_M_world_6
    simp (disch := first | omega | decide) only [jaU_eq, jaU_U, nI_add, pk_mul, jaIx_nI, vp_inT, true_and, and_true, ↓jaO0, ↓jaO1, nI_z, nI_z2, nI_z3, nI_z4, nI_z5, nI_lt', nI_le', nI_eq', jaUI_at, jaPt_eq, jaPt_ne, jaUI_o, jaUI_2, jaUL_at, jaUL_o, jaUL_1, jaB_z, jaB_1, ↓jaB_01, Classical.not_not, and_self, true_or, or_true, nI_11, Nat.reduceEqDiff, Nat.reduceAdd, Nat.reduceMul, Nat.add_zero, Nat.zero_add, Nat.mul_zero, not_true_eq_false, not_false_eq_true, false_implies, true_implies]
    refine ⟨fun q => absurd q (by omega), fun _ => ?_⟩
    have st : ∀ v, v = jaIf1 (i < 31) (h0 i) (nI 0) → jc_M_world_6 D kk (nI (i + 1)) (jaU σ 20 (jaUI S' 72 0 i v)) := fun v hv => by
      refine ih _ (fun j hj => ?_) (fun j hj => ?_) (f.ui (by decide) (by decide))
      · rw [jaUI_at]
        by_cases y : j = i
        · rw [y, jaPt_eq]
          exact hv
        · rw [jaPt_ne y]
          exact a j (by omega)
      · rw [jaUI_at, jaPt_ne (by omega)]
        exact b j hj
    refine ⟨fun q => st _ (jaIf1_f (by omega)).symm, fun q => ?_⟩
    (try simp (disch := first | omega | decide) only [jaU_eq, jaU_U, nI_add, pk_mul, jaIx_nI, vp_inT, true_and, and_true, ↓jaO0, ↓jaO1, nI_z, nI_z2, nI_z3, nI_z4, nI_z5, nI_lt', nI_le', nI_eq', jaUI_at, jaPt_eq, jaPt_ne, jaUI_o, jaUI_2, jaUL_at, jaUL_o, jaUL_1, jaB_z, jaB_1, ↓jaB_01, Classical.not_not, and_self, true_or, or_true, nI_11, Nat.reduceEqDiff, Nat.reduceAdd, Nat.reduceMul, Nat.add_zero, Nat.zero_add, Nat.mul_zero, not_true_eq_false, not_false_eq_true, false_implies, true_implies])
    refine st _ ?_
    rw [jaIf1_t (by omega), f.s 73 (by decide) (by decide)]
    exact h73 i (by omega)
theorem sp_M_world10 {D : Nat} {kk : Int32 → jaT → Prop} {σ : jaT} {S : jaS} (h : ∀ S', (∀ j, j < 16 → S'.2 78 0 j = S.2 78 0 (16 + j)) → jaFr [78] [] S S' → jc_M_world_12 D kk (nI 0) none (jaU σ 20 S')) : jc_M_world_10 D kk (nI 0) (jaU σ 20 S) := by
  refine jaFor (C := fun i => ∀ S', (∀ j, j < i → S'.2 78 0 j = S.2 78 0 (16 + j)) → (∀ j, 16 ≤ j → S'.2 78 0 j = S.2 78 0 j) → jaFr [78] [] S S' → jc_M_world_10 D kk (nI i) (jaU σ 20 S')) (N := 16) ?_ (fun i hi ih => ?_) S (fun _ q => absurd q (by omega)) (fun _ _ => rfl) jaFr.rfl
  · intro S' a b f
    apply jb_M_world_10
    simp (disch := first | omega | decide) only [jaU_eq, jaU_U, nI_add, pk_mul, jaIx_nI, vp_inT, true_and, and_true, ↓jaO0, ↓jaO1, nI_z, nI_z2, nI_z3, nI_z4, nI_z5, nI_lt', nI_le', nI_eq', jaUI_at, jaPt_eq, jaPt_ne, jaUI_o, jaUI_2, jaUL_at, jaUL_o, jaUL_1, jaB_z, jaB_1, ↓jaB_01, Classical.not_not, and_self, true_or, or_true, nI_11, Nat.reduceEqDiff, Nat.reduceAdd, Nat.reduceMul, Nat.add_zero, Nat.zero_add, Nat.mul_zero, not_true_eq_false, not_false_eq_true, false_implies, true_implies]
    refine ⟨fun _ => ?_, fun q => absurd (by omega) q⟩
    exact h S' a f
  · intro S' a b f
    apply jb_M_world_10
    simp (disch := first | omega | decide) only [jaU_eq, jaU_U, nI_add, pk_mul, jaIx_nI, vp_inT, true_and, and_true, ↓jaO0, ↓jaO1, nI_z, nI_z2, nI_z3, nI_z4, nI_z5, nI_lt', nI_le', nI_eq', jaUI_at, jaPt_eq, jaPt_ne, jaUI_o, jaUI_2, jaUL_at, jaUL_o, jaUL_1, jaB_z, jaB_1, ↓jaB_01, Classical.not_not, and_self, true_or, or_true, nI_11, Nat.reduceEqDiff, Nat.reduceAdd, Nat.reduceMul, Nat.add_zero, Nat.zero_add, Nat.mul_zero, not_true_eq_false, not_false_eq_true, false_implies, true_implies]
    refine ⟨fun q => absurd q (by omega), fun _ => ?_⟩
    refine ih _ (fun j hj => ?_) (fun j hj => ?_) (f.lo (by decide) (by decide))
    · rw [jaUL_at]
      by_cases y : j = i
      · rw [y]
        exact (if_pos rfl).trans (b _ (by omega))
      · exact (if_neg y).trans (a j (by omega))
    · rw [jaUL_at]
      exact (if_neg (by omega)).trans (b j hj)
end
