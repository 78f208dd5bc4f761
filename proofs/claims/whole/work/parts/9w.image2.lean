section
/-! image -/
set_option maxHeartbeats 1000000 in
theorem jf_image {x1 : Int32} : jFc jy_A_image jy_M_image [.inl x1] := by
  intro σ hI
  have hR := hI.R
  have hW := hI.W
  have hI0 := jI_0 (v := nI 0) hI
  apply js_A_image
  by_cases c : ∃ k, k < 2 ∧ x1 = nI k
  · obtain ⟨k, hk, rfl⟩ := c
    have hI' := hI
    obtain ⟨h1, h2, h3, ⟨w, w1, w2, w3⟩, h5, h6, h7, h8⟩ := hI'
    refine ⟨fun z => absurd z (by rw [show (0 : Int32) = nI 0 from rfl, nI_lt' (by omega) (by omega)]; omega), fun _ => ⟨fun _ => ?_, fun z => absurd (by rw [nI_lt' (by omega) (by omega)]; omega) z⟩⟩
    simp (disch := first | omega | decide) only [jaU_eq, jaU_U, nI_add, pk_mul, jaIx_nI, vp_inT, true_and, and_true, ↓jaO0, ↓jaO1, nI_z, nI_z2, nI_z3, nI_z4, nI_z5, nI_lt', nI_le', nI_eq', jaUI_at, jaPt_eq, jaPt_ne, jaUI_o, jaUI_2, jaUL_at, jaUL_o, jaUL_1, jaB_z, jaB_1, ↓jaB_01, Classical.not_not, and_self, true_or, or_true, nI_11, Nat.reduceEqDiff, Nat.reduceAdd, Nat.reduceMul, Nat.add_zero, Nat.zero_add, Nat.mul_zero, not_true_eq_false, not_false_eq_true, false_implies, true_implies]
    refine sp_St_copyFrom0 (by omega) (by omega) hR hW (fun S1 r1 _ n1 => ?_)
    have e0 : jaU σ (11 + k) S1 0 = σ 0 := jaU_ne (by omega)
    simp (disch := first | omega | decide) only [jaU_eq, jaU_U, nI_add, pk_mul, jaIx_nI, vp_inT, true_and, and_true, ↓jaO0, ↓jaO1, nI_z, nI_z2, nI_z3, nI_z4, nI_z5, nI_lt', nI_le', nI_eq', jaUI_at, jaPt_eq, jaPt_ne, jaUI_o, jaUI_2, jaUL_at, jaUL_o, jaUL_1, jaB_z, jaB_1, ↓jaB_01, Classical.not_not, and_self, true_or, or_true, nI_11, Nat.reduceEqDiff, Nat.reduceAdd, Nat.reduceMul, Nat.add_zero, Nat.zero_add, Nat.mul_zero, not_true_eq_false, not_false_eq_true, false_implies, true_implies, e0, w2]
    refine sp_Sn_copyFrom (s := (σ 20).1 72 0) (by omega) (by omega) (by rw [jaU_ne (by omega)]; exact w3) (fun V1 v1 => ?_)
    have e0' : jaU (jaU σ (11 + k) S1) (16 + k) V1 0 = σ 0 := by rw [jaU_ne (by omega), e0]
    rw [e0']
    generalize hτ : jaU (jaU (jaU σ (11 + k) S1) (16 + k) V1) 0 (jaUI (σ 0) 15 0 k (nI 1)) = τ
    have τ0 : τ 0 = jaUI (σ 0) 15 0 k (nI 1) := by rw [← hτ, jaU_eq]
    have τ1 : τ (11 + k) = S1 := by rw [← hτ, jaU_ne (by omega), jaU_ne (by omega), jaU_eq]
    have τ2 : τ (16 + k) = V1 := by rw [← hτ, jaU_ne (by omega), jaU_eq]
    have τn : ∀ q, q ≠ 0 → q ≠ 11 + k → q ≠ 16 + k → τ q = σ q := fun q h1 h2 h3 => by rw [← hτ, jaU_ne h1, jaU_ne h3, jaU_ne h2]
    refine jaAk (k := 20) (B := σ 20) (P := fun τ => jaDe 12 jy_M_image [jaMo, .inl (nI k)] τ (jaKi fun b σ2 => nI 1 = b ∧ jI σ2)) (τn 20 (by decide) (by omega) (by omega)) ?_
    refine sp_M_image (by omega) hk (fun B b91 b92 b93 b94 b94' b95 f => ⟨rfl, ?_⟩)
    have n : ∀ q, q ≠ 20 → jaU τ 20 B q = τ q := fun q hq => jaU_ne hq
    have E20 : jaU τ 20 B 20 = B := jaU_eq
    have bs : ∀ o, o ∉ [91, 92, 93, 94, 95] → o ≠ 70 → B.1 o = (σ 20).1 o := fun o h1 h2 => f.s o h1 h2
    have bl : ∀ o, o ∉ [91, 92, 93, 94, 95] → o ≠ 70 → B.2 o = (σ 20).2 o := fun o h1 h2 => f.l o h1 h2
    have bf : ∀ j, j ≠ 0 → B.1 70 0 j = (σ 20).1 70 0 j := fun j h1 => f.f j (by simp [h1])
    have a0 : ∀ o, o ≠ 15 → (τ 0).1 o = (σ 0).1 o := fun o ho => by
      rw [τ0]
      funext a
      simp (disch := first | omega | decide) only [jaU_eq, jaU_U, nI_add, pk_mul, jaIx_nI, vp_inT, true_and, and_true, ↓jaO0, ↓jaO1, nI_z, nI_z2, nI_z3, nI_z4, nI_z5, nI_lt', nI_le', nI_eq', jaUI_at, jaPt_eq, jaPt_ne, jaUI_o, jaUI_2, jaUL_at, jaUL_o, jaUL_1, jaB_z, jaB_1, ↓jaB_01, Classical.not_not, and_self, true_or, or_true, nI_11, Nat.reduceEqDiff, Nat.reduceAdd, Nat.reduceMul, Nat.add_zero, Nat.zero_add, Nat.mul_zero, not_true_eq_false, not_false_eq_true, false_implies, true_implies, ho]
    unfold jI
    rw [E20, n 0 (by decide), n 1 (by decide), τn 1 (by decide) (by omega) (by omega)]
    refine ⟨?_, ?_, ?_, ?_, ?_, ?_, ?_, ?_⟩
    · unfold jIt
      rw [a0 0 (by decide), a0 1 (by decide), bf 2 (by decide), bf 18 (by decide), bs 71 (by decide) (by decide)]
      exact h1
    · unfold jIs jIx
      rw [bs 72 (by decide) (by decide), bs 75 (by decide) (by decide), bs 76 (by decide) (by decide), bl 78 (by decide) (by decide)]
      exact h2
    · obtain ⟨m, q, i1, i2, i3, i4, i5, i6, i7⟩ := h3
      refine ⟨m, q, i1, i2, by rw [a0 0 (by decide)]; exact i3, by rw [a0 0 (by decide)]; exact i4, by rw [bf 33 (by decide)]; exact i5, by rw [bs 72 (by decide) (by decide), bs 83 (by decide) (by decide)]; exact i6, fun j hj => ?_⟩
      rw [n _ (by omega), n 1 (by decide), τn _ (by omega) (by omega) (by omega), τn 1 (by decide) (by omega) (by omega), bs 72 (by decide) (by decide), bs 75 (by decide) (by decide), bs 76 (by decide) (by decide), bs 83 (by decide) (by decide)]
      exact i7 j hj
    · refine ⟨w, w1, by rw [a0 0 (by decide)]; exact w2, ?_⟩
      rw [n _ (by omega), τn _ (by omega) (by omega) (by omega), bs 72 (by decide) (by decide)]
      exact w3
    · intro k' hk'
      by_cases ek : k' = k
      · subst ek
        refine Or.inr ⟨?_, ?_, ?_⟩
        · rw [τ0]
          simp (disch := first | omega | decide) only [jaU_eq, jaU_U, nI_add, pk_mul, jaIx_nI, vp_inT, true_and, and_true, ↓jaO0, ↓jaO1, nI_z, nI_z2, nI_z3, nI_z4, nI_z5, nI_lt', nI_le', nI_eq', jaUI_at, jaPt_eq, jaPt_ne, jaUI_o, jaUI_2, jaUL_at, jaUL_o, jaUL_1, jaB_z, jaB_1, ↓jaB_01, Classical.not_not, and_self, true_or, or_true, nI_11, Nat.reduceEqDiff, Nat.reduceAdd, Nat.reduceMul, Nat.add_zero, Nat.zero_add, Nat.mul_zero, not_true_eq_false, not_false_eq_true, false_implies, true_implies]
        · rw [b95, jaPt_eq]
        · rw [n _ (by omega), n _ (by omega), τ1, τ2]
          refine ⟨(σ 20).1 72 0, (σ 20).1 75 0, (σ 20).1 76 0, r1, hW, h2.2.2.1, fun j hj => ?_, fun j hj => ?_, fun j hj => ?_, ?_, v1⟩
          · rw [b91, jvCp_in hj, Nat.zero_add]
          · rw [b92, jvCp_in hj, Nat.zero_add]
          · rw [b93, jvCp_in hj, Nat.zero_add]
          · obtain ⟨-, -, -, nm, g1, g2, g3⟩ := h2
            refine ⟨nm, fun j hj => ?_, fun j hj hu => ?_, g3⟩
            · rw [n1 j hj]
              exact g1 j hj
            · show B.2 94 0 (16 * k' + j) = _
              rw [b94 j hj]
              exact g2 j hj hu
      · rw [n _ (by omega), n _ (by omega), τn (11 + k') (by omega) (by omega) (by omega), τn (16 + k') (by omega) (by omega) (by omega)]
        have e15 : (τ 0).1 15 0 k' = (σ 0).1 15 0 k' := by
          rw [τ0]
          simp (disch := first | omega | decide) only [jaU_eq, jaU_U, nI_add, pk_mul, jaIx_nI, vp_inT, true_and, and_true, ↓jaO0, ↓jaO1, nI_z, nI_z2, nI_z3, nI_z4, nI_z5, nI_lt', nI_le', nI_eq', jaUI_at, jaPt_eq, jaPt_ne, jaUI_o, jaUI_2, jaUL_at, jaUL_o, jaUL_1, jaB_z, jaB_1, ↓jaB_01, Classical.not_not, and_self, true_or, or_true, nI_11, Nat.reduceEqDiff, Nat.reduceAdd, Nat.reduceMul, Nat.add_zero, Nat.zero_add, Nat.mul_zero, not_true_eq_false, not_false_eq_true, false_implies, true_implies, ek]
        have e95 : B.1 95 0 k' = (σ 20).1 95 0 k' := by
          rw [b95]
          exact (jaPt_ne ek).trans (by rfl)
        rw [e15, e95]
        rcases h5 k' hk' with z | ⟨z1, z2, y, dd, ee, y1, y2, y3, y4, y5, y6, y7, y8⟩
        · exact Or.inl z
        · refine Or.inr ⟨z1, z2, y, dd, ee, y1, y2, y3, fun j hj => ?_, fun j hj => ?_, fun j hj => ?_, ?_, y8⟩
          · rw [b91, jvCp_out (by omega)]
            exact y4 j hj
          · rw [b92, jvCp_out (by omega)]
            exact y5 j hj
          · rw [b93, jvCp_out (by omega)]
            exact y6 j hj
          · obtain ⟨nm, g1, g2, g3⟩ := y7
            refine ⟨nm, g1, fun j hj hu => ?_, g3⟩
            show B.2 94 0 (16 * k' + j) = _
            rw [b94' _ (by omega)]
            exact g2 j hj hu
    · unfold jIb
      rw [a0 0 (by decide), a0 10 (by decide), bf 43 (by decide), bs 88 (by decide) (by decide)]
      exact h6
    · unfold jIf
      rw [a0 16 (by decide), a0 17 (by decide), bf 37 (by decide), bf 38 (by decide), bf 39 (by decide), bs 86 (by decide) (by decide)]
      exact h7
    · unfold jIm jmV
      rw [bl 79 (by decide) (by decide), n 13 (by decide), τn 13 (by decide) (by omega) (by omega)]
      exact h8
  · have M0 : jaDe 12 jy_M_image [jaMo, .inl x1] σ (jaKi fun b σ2 => nI 0 = b ∧ jI σ2) := by
      apply js_M_image
      refine sp_M_isIn (by omega) ?_
      have e : (¬ x1 < nI 0 ∧ ¬ nI 1 < x1) ↔ ∃ q, q < 2 ∧ x1 = nI q := by
        have := jxIn (N := 2) (by decide) (x := x1)
        rw [nI_sub (by decide)] at this
        exact this
      rw [jaB_c e, jaB_f c]
      exact ⟨fun z => absurd rfl z, fun _ => ⟨Or.inl rfl, rfl, hI0⟩⟩
    exact ⟨fun _ => ⟨Or.inl rfl, M0⟩, fun y => ⟨fun z => absurd ((jxInC (N := 2) (by decide)).mp ⟨y, fun u => by rw [jxLe] at u; exact u z⟩) c, fun _ => ⟨Or.inl rfl, M0⟩⟩⟩
end
