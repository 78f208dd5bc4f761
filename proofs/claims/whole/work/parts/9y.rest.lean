section
/-! restore -/
set_option maxHeartbeats 1000000 in
theorem jf_restore {x1 : Int32} : jFc jy_A_restore jy_M_restore [.inl x1] := by
  intro σ hI
  have hI0 := jI_0 (v := nI 0) hI
  apply js_A_restore
  by_cases c : ∃ k, k < 2 ∧ x1 = nI k
  · obtain ⟨k, hk, rfl⟩ := c
    have hI' := hI
    obtain ⟨h1, h2, h3, ⟨w, w1, w2, w3⟩, h5, h6, h7, h8⟩ := hI'
    refine ⟨fun z => absurd z (by rw [show (0 : Int32) = nI 0 from rfl, nI_lt' (by omega) (by omega)]; omega), fun _ => ⟨fun z => absurd z (by rw [nI_le' (by omega) (by omega)]; omega), fun _ => ?_⟩⟩
    simp (disch := first | omega | decide) only [jaU_eq, jaU_U, nI_add, pk_mul, jaIx_nI, vp_inT, true_and, and_true, ↓jaO0, ↓jaO1, nI_z, nI_z2, nI_z3, nI_z4, nI_z5, nI_lt', nI_le', nI_eq', jaUI_at, jaPt_eq, jaPt_ne, jaUI_o, jaUI_2, jaUL_at, jaUL_o, jaUL_1, jaB_z, jaB_1, ↓jaB_01, Classical.not_not, and_self, true_or, or_true, nI_11, Nat.reduceEqDiff, Nat.reduceAdd, Nat.reduceMul, Nat.add_zero, Nat.zero_add, Nat.mul_zero, not_true_eq_false, not_false_eq_true, false_implies, true_implies]
    rcases h5 k hk with ⟨z1, z2⟩ | ⟨z1, z2, y, dd, ee, y1, y2, y3, y4, y5, y6, y7, y8⟩
    · rw [z1]
      refine ⟨fun z => absurd rfl z, fun _ => ?_⟩
      refine jaAk (k := 20) (B := σ 20) (P := fun τ => jaDe 12 jy_M_restore [jaMo, .inl (nI k)] τ (jaKi fun b σ2 => nI 0 = b ∧ jI σ2)) rfl ?_
      exact sp_M_restore (by omega) hk (fun _ => ⟨rfl, hI0⟩) (fun z => absurd z2 z)
    · rw [z1]
      refine ⟨fun _ => ?_, fun z => absurd z (by decide)⟩
      refine sp_St_copyFrom0 (by omega) (by omega) y1 y2 (fun S1 r1 _ n1 => ?_)
      have e0 : jaU σ 1 S1 0 = σ 0 := jaU_ne (by decide)
      simp (disch := first | omega | decide) only [jaU_eq, jaU_U, nI_add, pk_mul, jaIx_nI, vp_inT, true_and, and_true, ↓jaO0, ↓jaO1, nI_z, nI_z2, nI_z3, nI_z4, nI_z5, nI_lt', nI_le', nI_eq', jaUI_at, jaPt_eq, jaPt_ne, jaUI_o, jaUI_2, jaUL_at, jaUL_o, jaUL_1, jaB_z, jaB_1, ↓jaB_01, Classical.not_not, and_self, true_or, or_true, nI_11, Nat.reduceEqDiff, Nat.reduceAdd, Nat.reduceMul, Nat.add_zero, Nat.zero_add, Nat.mul_zero, not_true_eq_false, not_false_eq_true, false_implies, true_implies, e0, w2]
      refine sp_Sn_copyFrom (s := y) (by omega) (by omega) (by rw [jaU_ne (by omega)]; exact y8) (fun V1 v1 => ?_)
      apply js_A_forgetKept
      have e0' : jaU (jaU σ 1 S1) (14 + w) V1 0 = σ 0 := by rw [jaU_ne (by omega), e0]
      simp only [e0', jaU_eq, jaU_U]
      generalize hτ : jaU (jaU (jaU σ 1 S1) (14 + w) V1) 0 (jaUI (jaUI (σ 0) 0 0 9 (nI 0)) 0 0 8 (nI 0)) = τ
      have τ0 : τ 0 = jaUI (jaUI (σ 0) 0 0 9 (nI 0)) 0 0 8 (nI 0) := by rw [← hτ, jaU_eq]
      have τ1 : τ 1 = S1 := by rw [← hτ, jaU_ne (by omega), jaU_ne (by omega), jaU_eq]
      have τ2 : τ (14 + w) = V1 := by rw [← hτ, jaU_ne (by omega), jaU_eq]
      have τn : ∀ q, q ≠ 0 → q ≠ 1 → q ≠ 14 + w → τ q = σ q := fun q h1 h2 h3 => by rw [← hτ, jaU_ne h1, jaU_ne h3, jaU_ne h2]
      (try simp (disch := first | omega | decide) only [jaU_eq, jaU_U, nI_add, pk_mul, jaIx_nI, vp_inT, true_and, and_true, ↓jaO0, ↓jaO1, nI_z, nI_z2, nI_z3, nI_z4, nI_z5, nI_lt', nI_le', nI_eq', jaUI_at, jaPt_eq, jaPt_ne, jaUI_o, jaUI_2, jaUL_at, jaUL_o, jaUL_1, jaB_z, jaB_1, ↓jaB_01, Classical.not_not, and_self, true_or, or_true, nI_11, Nat.reduceEqDiff, Nat.reduceAdd, Nat.reduceMul, Nat.add_zero, Nat.zero_add, Nat.mul_zero, not_true_eq_false, not_false_eq_true, false_implies, true_implies])
      refine jaAk (k := 20) (B := σ 20) (P := fun τ => jaDe 12 jy_M_restore [jaMo, .inl (nI k)] τ (jaKi fun b σ2 => nI 1 = b ∧ jI σ2)) (τn 20 (by decide) (by omega) (by omega)) ?_
      refine sp_M_restore (by omega) hk (fun z => absurd (z2.symm.trans z) (by decide)) (fun _ B b72 b75 b76 b78 b33 f => ⟨rfl, ?_⟩)
      have n : ∀ q, q ≠ 20 → jaU τ 20 B q = τ q := fun q hq => jaU_ne hq
      have E20 : jaU τ 20 B 20 = B := jaU_eq
      have bs : ∀ o, o ∉ [72, 75, 76, 78] → o ≠ 70 → B.1 o = (σ 20).1 o := fun o h1 h2 => f.s o h1 h2
      have bl : ∀ o, o ∉ [72, 75, 76, 78] → o ≠ 70 → B.2 o = (σ 20).2 o := fun o h1 h2 => f.l o h1 h2
      have bf : ∀ j, j ≠ 0 → j ≠ 33 → B.1 70 0 j = (σ 20).1 70 0 j := fun j h1 h2 => f.f j (by simp [h1, h2])
      have a0 : ∀ o, o ≠ 0 → (τ 0).1 o = (σ 0).1 o := fun o ho => by
        rw [τ0]
        funext a
        simp (disch := first | omega | decide) only [jaU_eq, jaU_U, nI_add, pk_mul, jaIx_nI, vp_inT, true_and, and_true, ↓jaO0, ↓jaO1, nI_z, nI_z2, nI_z3, nI_z4, nI_z5, nI_lt', nI_le', nI_eq', jaUI_at, jaPt_eq, jaPt_ne, jaUI_o, jaUI_2, jaUL_at, jaUL_o, jaUL_1, jaB_z, jaB_1, ↓jaB_01, Classical.not_not, and_self, true_or, or_true, nI_11, Nat.reduceEqDiff, Nat.reduceAdd, Nat.reduceMul, Nat.add_zero, Nat.zero_add, Nat.mul_zero, not_true_eq_false, not_false_eq_true, false_implies, true_implies, ho]
      have a1 : ∀ j, j ≠ 8 → j ≠ 9 → (τ 0).1 0 0 j = (σ 0).1 0 0 j := fun j h1 h2 => by
        rw [τ0, jaUI_at, jaPt_ne h1, jaUI_at, jaPt_ne h2]
      have s706 : ∀ j, j < 706 → B.1 72 0 j = y j := fun j hj => by
        rw [b72]
        have := @jvCp_in ((σ 20).1 72 0) ((σ 20).1 91 0) 0 (706 * k) 706 j hj
        rw [Nat.zero_add] at this
        rw [this]
        exact y4 j hj
      have d3 : ∀ j, j < 3192 → B.1 75 0 j = dd j := fun j hj => by
        rw [b75]
        have := @jvCp_in ((σ 20).1 75 0) ((σ 20).1 92 0) 0 (3192 * k) 3192 j hj
        rw [Nat.zero_add] at this
        rw [this]
        exact y5 j hj
      have e5 : ∀ j, j < 576 → B.1 76 0 j = ee j := fun j hj => by
        rw [b76]
        have := @jvCp_in ((σ 20).1 76 0) ((σ 20).1 93 0) 0 (576 * k) 576 j hj
        rw [Nat.zero_add] at this
        rw [this]
        exact y6 j hj
      have y24 := y2.o.many.2
      have y64 := y2.o.pool.2
      have g1 : ∀ j, j < 133 * jz y 32 → B.1 75 0 j = dd j := fun j hj => d3 j (by omega)
      have g2 : ∀ j, j < 9 * jz y 33 → B.1 76 0 j = ee j := fun j hj => e5 j (by omega)
      have wg := jW_g y2 g1 g2
      unfold jI
      rw [E20, n 0 (by decide), n 1 (by decide), τ1]
      refine ⟨?_, ?_, ?_, ?_, ?_, ?_, ?_, ?_⟩
      · unfold jIt
        rw [a1 1 (by decide) (by decide), a1 3 (by decide) (by decide), a0 1 (by decide), bf 2 (by decide) (by decide), bf 18 (by decide) (by decide), bs 71 (by decide) (by decide)]
        exact h1
      · refine ⟨jR_525 (fun j hj => s706 j (by omega)) wg (jR_g r1 y2 g1 g2), jW_525 (fun j hj => s706 j (by omega)) wg, by rw [jz_c (s706 31 (by decide))]; exact y3, ?_⟩
        obtain ⟨nm, m1, m2, m3⟩ := y7
        refine ⟨nm, fun j hj => ?_, fun j hj hu => ?_, fun z => ?_⟩
        · rw [n1 j hj]
          exact m1 j hj
        · show B.2 78 0 j = _
          rw [b78 j hj]
          refine m2 j hj ?_
          unfold jwU at hu ⊢
          rw [jz_c (s706 0 (by decide)), jz_c (s706 1 (by decide)), jz_c (s706 2 (by decide))] at hu
          exact hu
        · rw [jz_c (s706 2 (by decide))]
          exact m3 z
      · refine ⟨0, 0, by omega, by omega, ?_, ?_, b33, ⟨fun j j' _ hj => absurd hj (by omega), fun j hj => absurd hj (by omega)⟩, fun j hj => absurd hj (by omega)⟩
        · rw [τ0]
          simp (disch := first | omega | decide) only [jaU_eq, jaU_U, nI_add, pk_mul, jaIx_nI, vp_inT, true_and, and_true, ↓jaO0, ↓jaO1, nI_z, nI_z2, nI_z3, nI_z4, nI_z5, nI_lt', nI_le', nI_eq', jaUI_at, jaPt_eq, jaPt_ne, jaUI_o, jaUI_2, jaUL_at, jaUL_o, jaUL_1, jaB_z, jaB_1, ↓jaB_01, Classical.not_not, and_self, true_or, or_true, nI_11, Nat.reduceEqDiff, Nat.reduceAdd, Nat.reduceMul, Nat.add_zero, Nat.zero_add, Nat.mul_zero, not_true_eq_false, not_false_eq_true, false_implies, true_implies]
        · rw [τ0]
          simp (disch := first | omega | decide) only [jaU_eq, jaU_U, nI_add, pk_mul, jaIx_nI, vp_inT, true_and, and_true, ↓jaO0, ↓jaO1, nI_z, nI_z2, nI_z3, nI_z4, nI_z5, nI_lt', nI_le', nI_eq', jaUI_at, jaPt_eq, jaPt_ne, jaUI_o, jaUI_2, jaUL_at, jaUL_o, jaUL_1, jaB_z, jaB_1, ↓jaB_01, Classical.not_not, and_self, true_or, or_true, nI_11, Nat.reduceEqDiff, Nat.reduceAdd, Nat.reduceMul, Nat.add_zero, Nat.zero_add, Nat.mul_zero, not_true_eq_false, not_false_eq_true, false_implies, true_implies]
      · refine ⟨w, w1, by rw [a1 11 (by decide) (by decide)]; exact w2, ?_⟩
        rw [n _ (by omega), τ2]
        exact jSn_706 s706 v1
      · intro k' hk'
        rw [a0 15 (by decide), bs 95 (by decide) (by decide), n _ (by omega), n _ (by omega), τn (11 + k') (by omega) (by omega) (by omega), τn (16 + k') (by omega) (by omega) (by omega)]
        unfold jIi1
        rw [bs 91 (by decide) (by decide), bs 92 (by decide) (by decide), bs 93 (by decide) (by decide), bl 94 (by decide) (by decide)]
        exact h5 k' hk'
      · unfold jIb
        rw [a1 17 (by decide) (by decide), a0 10 (by decide), bf 43 (by decide) (by decide), bs 88 (by decide) (by decide)]
        exact h6
      · unfold jIf
        rw [a0 16 (by decide), a0 17 (by decide), bf 37 (by decide) (by decide), bf 38 (by decide) (by decide), bf 39 (by decide) (by decide), bs 86 (by decide) (by decide)]
        exact h7
      · unfold jIm jmV
        rw [bl 79 (by decide) (by decide), n 13 (by decide), τn 13 (by decide) (by omega) (by omega)]
        exact h8
  · have M0 : jaDe 12 jy_M_restore [jaMo, .inl x1] σ (jaKi fun b σ2 => nI 0 = b ∧ jI σ2) := by
      apply js_M_restore
      refine sp_M_isIn (by omega) ?_
      have e : (¬ x1 < nI 0 ∧ ¬ nI 1 < x1) ↔ ∃ q, q < 2 ∧ x1 = nI q := by
        have := jxIn (N := 2) (by decide) (x := x1)
        rw [nI_sub (by decide)] at this
        exact this
      rw [jaB_c e, jaB_f c]
      exact ⟨fun _ => ⟨Or.inl rfl, rfl, hI0⟩, fun z => absurd rfl z⟩
    exact ⟨fun _ => ⟨Or.inl rfl, M0⟩, fun y => ⟨fun _ => ⟨Or.inl rfl, M0⟩, fun z => absurd ((jxInC (N := 2) (by decide)).mp ⟨y, z⟩) c⟩⟩
end
