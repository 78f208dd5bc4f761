section
/-! the reference: checks, an epoch's end, a tick -/
theorem sp_M_ceases {D : Nat} (hD : 1 ≤ D) {kk : jaT → Prop} {σ : jaT} {S : jaS} {s : jvA} (hs : S.1 72 0 = s) (h : ∀ S', S'.1 72 0 = jvCe s → jaFr [72] [] S S' → kk (jaU σ 20 S')) : jaDe D jy_M_ceases [jaMo] (jaU σ 20 S) (jaKv kk) := by
  obtain ⟨D, rfl, hD⟩ := jaSuc hD
  apply js_M_ceases
  simp (disch := first | omega | decide) only [jaU_eq, jaU_U, nI_add, pk_mul, jaIx_nI, vp_inT, true_and, and_true, ↓jaO0, ↓jaO1, nI_z, nI_z2, nI_z3, nI_z4, nI_z5, nI_lt', nI_le', nI_eq', jaUI_at, jaPt_eq, jaPt_ne, jaUI_o, jaUI_2, jaUL_at, jaUL_o, jaUL_1, jaB_z, jaB_1, ↓jaB_01, Classical.not_not, and_self, true_or, or_true, nI_11, Nat.reduceEqDiff, Nat.reduceAdd, Nat.reduceMul, Nat.add_zero, Nat.zero_add, Nat.mul_zero, not_true_eq_false, not_false_eq_true, false_implies, true_implies, hs]
  have hF : jaFr [72] [] S (jaUI (jaUI (jaUI (jaUI S 72 0 36 (nI 0)) 72 0 37 (nI 0)) 72 0 38 (nI 0)) 72 0 39 (nI 0)) := by
    (repeat' first | assumption | exact jaFr.rfl | refine jaFr.ui ?_ (by decide) (by decide) | refine jaFr.uf ?_ (by decide) | exact jaFr.mono (by assumption) (by decide) (by decide))
  have hs2 : (jaUI (jaUI (jaUI (jaUI S 72 0 36 (nI 0)) 72 0 37 (nI 0)) 72 0 38 (nI 0)) 72 0 39 (nI 0)).1 72 0 = jaPt (jaPt (jaPt (jaPt s 36 (nI 0)) 37 (nI 0)) 38 (nI 0)) 39 (nI 0) := by
    simp (disch := first | omega | decide) only [jaU_eq, jaU_U, nI_add, pk_mul, jaIx_nI, vp_inT, true_and, and_true, ↓jaO0, ↓jaO1, nI_z, nI_z2, nI_z3, nI_z4, nI_z5, nI_lt', nI_le', nI_eq', jaUI_at, jaPt_eq, jaPt_ne, jaUI_o, jaUI_2, jaUL_at, jaUL_o, jaUL_1, jaB_z, jaB_1, ↓jaB_01, Classical.not_not, and_self, true_or, or_true, nI_11, Nat.reduceEqDiff, Nat.reduceAdd, Nat.reduceMul, Nat.add_zero, Nat.zero_add, Nat.mul_zero, not_true_eq_false, not_false_eq_true, false_implies, true_implies, hs]
  refine jaFor (C := fun k => ∀ S', S'.1 72 0 = jvCe1 (jaPt (jaPt (jaPt (jaPt s 36 (nI 0)) 37 (nI 0)) 38 (nI 0)) 39 (nI 0)) k → jaFr [72] [] S S' → jc_M_ceases_1 D kk (nI k) (jaU σ 20 S')) (N := 10) ?_ (fun k hk ih => ?_) _ hs2 hF
  · intro S' a f
    apply jb_M_ceases_1
    simp (disch := first | omega | decide) only [jaU_eq, jaU_U, nI_add, pk_mul, jaIx_nI, vp_inT, true_and, and_true, ↓jaO0, ↓jaO1, nI_z, nI_z2, nI_z3, nI_z4, nI_z5, nI_lt', nI_le', nI_eq', jaUI_at, jaPt_eq, jaPt_ne, jaUI_o, jaUI_2, jaUL_at, jaUL_o, jaUL_1, jaB_z, jaB_1, ↓jaB_01, Classical.not_not, and_self, true_or, or_true, nI_11, Nat.reduceEqDiff, Nat.reduceAdd, Nat.reduceMul, Nat.add_zero, Nat.zero_add, Nat.mul_zero, not_true_eq_false, not_false_eq_true, false_implies, true_implies]
    refine ⟨fun _ => ?_, fun q => absurd (by omega) q⟩
    exact h S' a f
  · intro S' a f
    apply jb_M_ceases_1
    simp (disch := first | omega | decide) only [jaU_eq, jaU_U, nI_add, pk_mul, jaIx_nI, vp_inT, true_and, and_true, ↓jaO0, ↓jaO1, nI_z, nI_z2, nI_z3, nI_z4, nI_z5, nI_lt', nI_le', nI_eq', jaUI_at, jaPt_eq, jaPt_ne, jaUI_o, jaUI_2, jaUL_at, jaUL_o, jaUL_1, jaB_z, jaB_1, ↓jaB_01, Classical.not_not, and_self, true_or, or_true, nI_11, Nat.reduceEqDiff, Nat.reduceAdd, Nat.reduceMul, Nat.add_zero, Nat.zero_add, Nat.mul_zero, not_true_eq_false, not_false_eq_true, false_implies, true_implies, a]
    refine ⟨fun q => absurd q (by omega), fun _ => ?_⟩
    refine ih _ ?_ ?_
    · simp (disch := first | omega | decide) only [jaU_eq, jaU_U, nI_add, pk_mul, jaIx_nI, vp_inT, true_and, and_true, ↓jaO0, ↓jaO1, nI_z, nI_z2, nI_z3, nI_z4, nI_z5, nI_lt', nI_le', nI_eq', jaUI_at, jaPt_eq, jaPt_ne, jaUI_o, jaUI_2, jaUL_at, jaUL_o, jaUL_1, jaB_z, jaB_1, ↓jaB_01, Classical.not_not, and_self, true_or, or_true, nI_11, Nat.reduceEqDiff, Nat.reduceAdd, Nat.reduceMul, Nat.add_zero, Nat.zero_add, Nat.mul_zero, not_true_eq_false, not_false_eq_true, false_implies, true_implies, a]
      rfl
    · (repeat' first | assumption | exact jaFr.rfl | refine jaFr.ui ?_ (by decide) (by decide) | refine jaFr.uf ?_ (by decide) | exact jaFr.mono (by assumption) (by decide) (by decide))
set_option maxHeartbeats 1000000 in
theorem sp_M_savesAll {D : Nat} (hD : 2 ≤ D) {kk : jaT → Prop} {σ : jaT} {S : jaS} {s : jvA} (hs : S.1 72 0 = s) (hw : jWw s) (h : ∀ S', S'.1 72 0 = jvSa s → jaFr [72] [] S S' → kk (jaU σ 20 S')) : jaDe D jy_M_savesAll [jaMo] (jaU σ 20 S) (jaKv kk) := by
  obtain ⟨D, rfl, hD⟩ := jaSuc hD
  obtain ⟨hK, hK'⟩ := hw.2.1
  have h10 : jz (jaPt s 40 (s 37)) 1 = jz s 1 := jz_c (jaPt_ne (by decide))
  apply js_M_savesAll
  simp (disch := first | omega | decide) only [jaU_eq, jaU_U, nI_add, pk_mul, jaIx_nI, vp_inT, true_and, and_true, ↓jaO0, ↓jaO1, nI_z, nI_z2, nI_z3, nI_z4, nI_z5, nI_lt', nI_le', nI_eq', jaUI_at, jaPt_eq, jaPt_ne, jaUI_o, jaUI_2, jaUL_at, jaUL_o, jaUL_1, jaB_z, jaB_1, ↓jaB_01, Classical.not_not, and_self, true_or, or_true, nI_11, Nat.reduceEqDiff, Nat.reduceAdd, Nat.reduceMul, Nat.add_zero, Nat.zero_add, Nat.mul_zero, not_true_eq_false, not_false_eq_true, false_implies, true_implies, hs]
  have hF : jaFr [72] [] S (jaUI S 72 0 40 (s 37)) := by
    (repeat' first | assumption | exact jaFr.rfl | refine jaFr.ui ?_ (by decide) (by decide) | refine jaFr.uf ?_ (by decide) | exact jaFr.mono (by assumption) (by decide) (by decide))
  have hs2 : (jaUI S 72 0 40 (s 37)).1 72 0 = jaPt s 40 (s 37) := by
    simp (disch := first | omega | decide) only [jaU_eq, jaU_U, nI_add, pk_mul, jaIx_nI, vp_inT, true_and, and_true, ↓jaO0, ↓jaO1, nI_z, nI_z2, nI_z3, nI_z4, nI_z5, nI_lt', nI_le', nI_eq', jaUI_at, jaPt_eq, jaPt_ne, jaUI_o, jaUI_2, jaUL_at, jaUL_o, jaUL_1, jaB_z, jaB_1, ↓jaB_01, Classical.not_not, and_self, true_or, or_true, nI_11, Nat.reduceEqDiff, Nat.reduceAdd, Nat.reduceMul, Nat.add_zero, Nat.zero_add, Nat.mul_zero, not_true_eq_false, not_false_eq_true, false_implies, true_implies, hs]
  refine jaFor (C := fun k => ∀ S', S'.1 72 0 = jvSa1 (jaPt s 40 (s 37)) k → jaFr [72] [] S S' → jc_M_savesAll_1 D kk (nI k) (jaU σ 20 S')) (N := jz s 1) ?_ (fun k hk ih => ?_) _ hs2 hF
  · intro S' a f
    have e1 : jvSa1 (jaPt s 40 (s 37)) (jz s 1) 1 = nI (jz s 1) := by rw [jvSa1_at _ hK', jaIf1_f (by omega), jaPt_ne (by decide)]; exact hK
    have e37 : ∀ n, n ≤ 40 → jvSa2 (jvSa1 (jaPt s 40 (s 37)) (jz s 1)) n 37 = s 37 := fun n hn => by rw [jvSa2_at n hn, jaIf1_f (by omega), jvSa1_at _ hK', jaIf1_f (by omega), jaPt_ne (by decide)]
    have hr : jvSa s = jvCe (jvSa2 (jvSa1 (jaPt s 40 (s 37)) (jz s 1)) 40) := rfl
    apply jb_M_savesAll_1
    simp (disch := first | omega | decide) only [jaU_eq, jaU_U, nI_add, pk_mul, jaIx_nI, vp_inT, true_and, and_true, ↓jaO0, ↓jaO1, nI_z, nI_z2, nI_z3, nI_z4, nI_z5, nI_lt', nI_le', nI_eq', jaUI_at, jaPt_eq, jaPt_ne, jaUI_o, jaUI_2, jaUL_at, jaUL_o, jaUL_1, jaB_z, jaB_1, ↓jaB_01, Classical.not_not, and_self, true_or, or_true, nI_11, Nat.reduceEqDiff, Nat.reduceAdd, Nat.reduceMul, Nat.add_zero, Nat.zero_add, Nat.mul_zero, not_true_eq_false, not_false_eq_true, false_implies, true_implies, a]
    rw [e1]
    simp (disch := first | omega | decide) only [jaU_eq, jaU_U, nI_add, pk_mul, jaIx_nI, vp_inT, true_and, and_true, ↓jaO0, ↓jaO1, nI_z, nI_z2, nI_z3, nI_z4, nI_z5, nI_lt', nI_le', nI_eq', jaUI_at, jaPt_eq, jaPt_ne, jaUI_o, jaUI_2, jaUL_at, jaUL_o, jaUL_1, jaB_z, jaB_1, ↓jaB_01, Classical.not_not, and_self, true_or, or_true, nI_11, Nat.reduceEqDiff, Nat.reduceAdd, Nat.reduceMul, Nat.add_zero, Nat.zero_add, Nat.mul_zero, not_true_eq_false, not_false_eq_true, false_implies, true_implies]
    refine ⟨fun _ => ?_, fun q => absurd (by omega) q⟩
    generalize jvSa1 (jaPt s 40 (s 37)) (jz s 1) = s1 at *
    refine jaFor (C := fun k => ∀ S', S'.1 72 0 = jvSa2 s1 k → jaFr [72] [] S S' → jc_M_savesAll_3 D kk (nI k) (jaU σ 20 S')) (N := 40) ?_ (fun k hk ih => ?_) S' a f
    · intro S2 a2 f2
      apply jb_M_savesAll_3
      simp (disch := first | omega | decide) only [jaU_eq, jaU_U, nI_add, pk_mul, jaIx_nI, vp_inT, true_and, and_true, ↓jaO0, ↓jaO1, nI_z, nI_z2, nI_z3, nI_z4, nI_z5, nI_lt', nI_le', nI_eq', jaUI_at, jaPt_eq, jaPt_ne, jaUI_o, jaUI_2, jaUL_at, jaUL_o, jaUL_1, jaB_z, jaB_1, ↓jaB_01, Classical.not_not, and_self, true_or, or_true, nI_11, Nat.reduceEqDiff, Nat.reduceAdd, Nat.reduceMul, Nat.add_zero, Nat.zero_add, Nat.mul_zero, not_true_eq_false, not_false_eq_true, false_implies, true_implies]
      refine ⟨fun _ => ?_, fun q => absurd (by omega) q⟩
      refine sp_M_ceases (by omega) a2 (fun S3 a3 f3 => h S3 (by rw [a3, hr]) (f2.trans f3))
    · intro S2 a2 f2
      apply jb_M_savesAll_3
      simp (disch := first | omega | decide) only [jaU_eq, jaU_U, nI_add, pk_mul, jaIx_nI, vp_inT, true_and, and_true, ↓jaO0, ↓jaO1, nI_z, nI_z2, nI_z3, nI_z4, nI_z5, nI_lt', nI_le', nI_eq', jaUI_at, jaPt_eq, jaPt_ne, jaUI_o, jaUI_2, jaUL_at, jaUL_o, jaUL_1, jaB_z, jaB_1, ↓jaB_01, Classical.not_not, and_self, true_or, or_true, nI_11, Nat.reduceEqDiff, Nat.reduceAdd, Nat.reduceMul, Nat.add_zero, Nat.zero_add, Nat.mul_zero, not_true_eq_false, not_false_eq_true, false_implies, true_implies, a2]
      refine ⟨fun q => absurd q (by omega), fun _ => ?_⟩
      rw [e37 k (by omega)]
      have hst : jvSa2 s1 (k + 1) = jaPt (jvSa2 s1 k) (485 + k) (jaIf1 (jvSa2 s1 k 37 ≤ nI k) (nI 0) (jvSa2 s1 k (175 + k))) := rfl
      rw [hst, e37 k (by omega)] at ih
      refine ⟨fun q => ?_, fun q => ?_⟩
      · rw [jaIf1_t q] at ih
        refine ih _ ?_ ?_
        · simp (disch := first | omega | decide) only [jaU_eq, jaU_U, nI_add, pk_mul, jaIx_nI, vp_inT, true_and, and_true, ↓jaO0, ↓jaO1, nI_z, nI_z2, nI_z3, nI_z4, nI_z5, nI_lt', nI_le', nI_eq', jaUI_at, jaPt_eq, jaPt_ne, jaUI_o, jaUI_2, jaUL_at, jaUL_o, jaUL_1, jaB_z, jaB_1, ↓jaB_01, Classical.not_not, and_self, true_or, or_true, nI_11, Nat.reduceEqDiff, Nat.reduceAdd, Nat.reduceMul, Nat.add_zero, Nat.zero_add, Nat.mul_zero, not_true_eq_false, not_false_eq_true, false_implies, true_implies, a2]
        · (repeat' first | assumption | exact jaFr.rfl | refine jaFr.ui ?_ (by decide) (by decide) | refine jaFr.uf ?_ (by decide) | exact jaFr.mono (by assumption) (by decide) (by decide))
      · rw [jaIf1_f q] at ih
        apply sp_M_howIn (c := 0) (by omega) a2 (by decide) (by omega)
        simp (disch := first | omega | decide) only [jaU_eq, jaU_U, nI_add, pk_mul, jaIx_nI, vp_inT, true_and, and_true, ↓jaO0, ↓jaO1, nI_z, nI_z2, nI_z3, nI_z4, nI_z5, nI_lt', nI_le', nI_eq', jaUI_at, jaPt_eq, jaPt_ne, jaUI_o, jaUI_2, jaUL_at, jaUL_o, jaUL_1, jaB_z, jaB_1, ↓jaB_01, Classical.not_not, and_self, true_or, or_true, nI_11, Nat.reduceEqDiff, Nat.reduceAdd, Nat.reduceMul, Nat.add_zero, Nat.zero_add, Nat.mul_zero, not_true_eq_false, not_false_eq_true, false_implies, true_implies, a2]
        refine ih _ ?_ ?_
        · simp (disch := first | omega | decide) only [jaU_eq, jaU_U, nI_add, pk_mul, jaIx_nI, vp_inT, true_and, and_true, ↓jaO0, ↓jaO1, nI_z, nI_z2, nI_z3, nI_z4, nI_z5, nI_lt', nI_le', nI_eq', jaUI_at, jaPt_eq, jaPt_ne, jaUI_o, jaUI_2, jaUL_at, jaUL_o, jaUL_1, jaB_z, jaB_1, ↓jaB_01, Classical.not_not, and_self, true_or, or_true, nI_11, Nat.reduceEqDiff, Nat.reduceAdd, Nat.reduceMul, Nat.add_zero, Nat.zero_add, Nat.mul_zero, not_true_eq_false, not_false_eq_true, false_implies, true_implies, a2]
        · (repeat' first | assumption | exact jaFr.rfl | refine jaFr.ui ?_ (by decide) (by decide) | refine jaFr.uf ?_ (by decide) | exact jaFr.mono (by assumption) (by decide) (by decide))
  · intro S' a f
    have e1 : jvSa1 (jaPt s 40 (s 37)) k 1 = nI (jz s 1) := by rw [jvSa1_at _ (by omega), jaIf1_f (by omega), jaPt_ne (by decide)]; exact hK
    apply jb_M_savesAll_1
    simp (disch := first | omega | decide) only [jaU_eq, jaU_U, nI_add, pk_mul, jaIx_nI, vp_inT, true_and, and_true, ↓jaO0, ↓jaO1, nI_z, nI_z2, nI_z3, nI_z4, nI_z5, nI_lt', nI_le', nI_eq', jaUI_at, jaPt_eq, jaPt_ne, jaUI_o, jaUI_2, jaUL_at, jaUL_o, jaUL_1, jaB_z, jaB_1, ↓jaB_01, Classical.not_not, and_self, true_or, or_true, nI_11, Nat.reduceEqDiff, Nat.reduceAdd, Nat.reduceMul, Nat.add_zero, Nat.zero_add, Nat.mul_zero, not_true_eq_false, not_false_eq_true, false_implies, true_implies, a]
    rw [e1]
    simp (disch := first | omega | decide) only [jaU_eq, jaU_U, nI_add, pk_mul, jaIx_nI, vp_inT, true_and, and_true, ↓jaO0, ↓jaO1, nI_z, nI_z2, nI_z3, nI_z4, nI_z5, nI_lt', nI_le', nI_eq', jaUI_at, jaPt_eq, jaPt_ne, jaUI_o, jaUI_2, jaUL_at, jaUL_o, jaUL_1, jaB_z, jaB_1, ↓jaB_01, Classical.not_not, and_self, true_or, or_true, nI_11, Nat.reduceEqDiff, Nat.reduceAdd, Nat.reduceMul, Nat.add_zero, Nat.zero_add, Nat.mul_zero, not_true_eq_false, not_false_eq_true, false_implies, true_implies]
    refine ⟨fun q => absurd q (by omega), fun _ => ?_⟩
    refine ih _ ?_ ?_
    · simp (disch := first | omega | decide) only [jaU_eq, jaU_U, nI_add, pk_mul, jaIx_nI, vp_inT, true_and, and_true, ↓jaO0, ↓jaO1, nI_z, nI_z2, nI_z3, nI_z4, nI_z5, nI_lt', nI_le', nI_eq', jaUI_at, jaPt_eq, jaPt_ne, jaUI_o, jaUI_2, jaUL_at, jaUL_o, jaUL_1, jaB_z, jaB_1, ↓jaB_01, Classical.not_not, and_self, true_or, or_true, nI_11, Nat.reduceEqDiff, Nat.reduceAdd, Nat.reduceMul, Nat.add_zero, Nat.zero_add, Nat.mul_zero, not_true_eq_false, not_false_eq_true, false_implies, true_implies, a]
      rfl
    · (repeat' first | assumption | exact jaFr.rfl | refine jaFr.ui ?_ (by decide) (by decide) | refine jaFr.uf ?_ (by decide) | exact jaFr.mono (by assumption) (by decide) (by decide))
theorem sp_M_checks {D : Nat} (hD : 3 ≤ D) {kk : jaT → Prop} {σ : jaT} {S : jaS} {s : jvA} (hs : S.1 72 0 = s) (hw : jWw s) (h : ∀ S', S'.1 72 0 = jvCh s → jaFr [72] [] S S' → kk (jaU σ 20 S')) : jaDe D jy_M_checks [jaMo] (jaU σ 20 S) (jaKv kk) := by
  obtain ⟨D, rfl, hD⟩ := jaSuc hD
  apply js_M_checks
  simp (disch := first | omega | decide) only [jaU_eq, jaU_U, nI_add, pk_mul, jaIx_nI, vp_inT, true_and, and_true, ↓jaO0, ↓jaO1, nI_z, nI_z2, nI_z3, nI_z4, nI_z5, nI_lt', nI_le', nI_eq', jaUI_at, jaPt_eq, jaPt_ne, jaUI_o, jaUI_2, jaUL_at, jaUL_o, jaUL_1, jaB_z, jaB_1, ↓jaB_01, Classical.not_not, and_self, true_or, or_true, nI_11, Nat.reduceEqDiff, Nat.reduceAdd, Nat.reduceMul, Nat.add_zero, Nat.zero_add, Nat.mul_zero, not_true_eq_false, not_false_eq_true, false_implies, true_implies, hs]
  have hs2 : (jaUI (jaUI S 72 0 36 (nI 1)) 72 0 37 (s 34)).1 72 0 = jaPt (jaPt s 36 (nI 1)) 37 (s 34) := by
    simp (disch := first | omega | decide) only [jaU_eq, jaU_U, nI_add, pk_mul, jaIx_nI, vp_inT, true_and, and_true, ↓jaO0, ↓jaO1, nI_z, nI_z2, nI_z3, nI_z4, nI_z5, nI_lt', nI_le', nI_eq', jaUI_at, jaPt_eq, jaPt_ne, jaUI_o, jaUI_2, jaUL_at, jaUL_o, jaUL_1, jaB_z, jaB_1, ↓jaB_01, Classical.not_not, and_self, true_or, or_true, nI_11, Nat.reduceEqDiff, Nat.reduceAdd, Nat.reduceMul, Nat.add_zero, Nat.zero_add, Nat.mul_zero, not_true_eq_false, not_false_eq_true, false_implies, true_implies, hs]
  have hF : jaFr [72] [] S (jaUI (jaUI S 72 0 36 (nI 1)) 72 0 37 (s 34)) := by
    (repeat' first | assumption | exact jaFr.rfl | refine jaFr.ui ?_ (by decide) (by decide) | refine jaFr.uf ?_ (by decide) | exact jaFr.mono (by assumption) (by decide) (by decide))
  unfold jvCh at h
  refine ⟨fun q => ?_, fun q => ?_⟩
  · rw [jaIf1_f q] at h
    exact h _ hs2 hF
  · rw [jaIf1_t q] at h
    exact sp_M_savesAll (by omega) hs2 (jWw_c (fun j hj => by rw [jaPt_ne (by omega), jaPt_ne (by omega)]) hw) (fun S3 a f => h S3 a (hF.trans f))
set_option maxHeartbeats 1000000 in
theorem sp_M_takesNext {D : Nat} (hD : 4 ≤ D) {kk : jaT → Prop} {σ : jaT} {S : jaS} {s d e : jvA} (hs : S.1 72 0 = s) (hW : jW s d e) (h : ∀ S', S'.1 72 0 = jvTn s → jaFr [72] [] S S' → kk (jaU σ 20 S')) : jaDe D jy_M_takesNext [jaMo] (jaU σ 20 S) (jaKv kk) := by
  obtain ⟨D, rfl, hD⟩ := jaSuc hD
  have h10 := hW.w.2.1.2
  have hO := hW.O
  apply js_M_takesNext
  simp only [jvTn] at h
  simp (disch := first | omega | decide) only [jaU_eq, jaU_U, nI_add, pk_mul, jaIx_nI, vp_inT, true_and, and_true, ↓jaO0, ↓jaO1, nI_z, nI_z2, nI_z3, nI_z4, nI_z5, nI_lt', nI_le', nI_eq', jaUI_at, jaPt_eq, jaPt_ne, jaUI_o, jaUI_2, jaUL_at, jaUL_o, jaUL_1, jaB_z, jaB_1, ↓jaB_01, Classical.not_not, and_self, true_or, or_true, nI_11, Nat.reduceEqDiff, Nat.reduceAdd, Nat.reduceMul, Nat.add_zero, Nat.zero_add, Nat.mul_zero, not_true_eq_false, not_false_eq_true, false_implies, true_implies, hs]
  refine ⟨fun q => ?_, fun q => ?_⟩
  · rw [jaIf1_t (Or.inl q)] at h
    exact h S hs jaFr.rfl
  · obtain ⟨k1, k2, k3, k4, k5⟩ : s 36 = nI 1 ∧ s 37 = nI (jz s 37) ∧ jz s 37 ≤ jz s 34 ∧ s 38 = nI (jz s 38) ∧ jz s 38 < jz s 1 := by
      rcases hW.k.1 with z | z
      · exact absurd (z.1.trans nI_0) q
      · exact z
    rw [k2]
    refine sp_M_areOver (by omega) hs (c := 0) (by decide) (by omega) ?_
    simp (disch := first | omega | decide) only [jaU_eq, jaU_U, nI_add, pk_mul, jaIx_nI, vp_inT, true_and, and_true, ↓jaO0, ↓jaO1, nI_z, nI_z2, nI_z3, nI_z4, nI_z5, nI_lt', nI_le', nI_eq', jaUI_at, jaPt_eq, jaPt_ne, jaUI_o, jaUI_2, jaUL_at, jaUL_o, jaUL_1, jaB_z, jaB_1, ↓jaB_01, Classical.not_not, and_self, true_or, or_true, nI_11, Nat.reduceEqDiff, Nat.reduceAdd, Nat.reduceMul, Nat.add_zero, Nat.zero_add, Nat.mul_zero, not_true_eq_false, not_false_eq_true, false_implies, true_implies, hs]
    refine ⟨fun q2 => ?_, fun q2 => ?_⟩
    · rw [jaIf1_f (fun x => x.elim q (fun y => y q2)), k4] at h
      rw [k4]
      refine sp_M_bitOf (by omega) ?_
      generalize jz s 38 = k at *
      have hv : ∀ v, v = jaIf1 (jaBt (s 39) k) (s (455 + k)) (s (145 + k)) → ((¬ jaPt (jaPt s (465 + k) v) 38 (nI (k + 1)) 38 = jaPt (jaPt s (465 + k) v) 38 (nI (k + 1)) 1 → kk (jaU σ 20 (jaUI (jaUI S 72 0 (465 + k) v) 72 0 38 (nI (k + 1))))) ∧ (jaPt (jaPt s (465 + k) v) 38 (nI (k + 1)) 38 = jaPt (jaPt s (465 + k) v) 38 (nI (k + 1)) 1 → jaDe D jy_M_savesAll [jaMo] (jaU σ 20 (jaUI (jaUI S 72 0 (465 + k) v) 72 0 38 (nI (k + 1)))) (jaKv kk))) := by
        intro v ev
        rw [← ev, nI_add] at h
        have hs2 : (jaUI (jaUI S 72 0 (465 + k) v) 72 0 38 (nI (k + 1))).1 72 0 = jaPt (jaPt s (465 + k) v) 38 (nI (k + 1)) := by
          simp (disch := first | omega | decide) only [jaU_eq, jaU_U, nI_add, pk_mul, jaIx_nI, vp_inT, true_and, and_true, ↓jaO0, ↓jaO1, nI_z, nI_z2, nI_z3, nI_z4, nI_z5, nI_lt', nI_le', nI_eq', jaUI_at, jaPt_eq, jaPt_ne, jaUI_o, jaUI_2, jaUL_at, jaUL_o, jaUL_1, jaB_z, jaB_1, ↓jaB_01, Classical.not_not, and_self, true_or, or_true, nI_11, Nat.reduceEqDiff, Nat.reduceAdd, Nat.reduceMul, Nat.add_zero, Nat.zero_add, Nat.mul_zero, not_true_eq_false, not_false_eq_true, false_implies, true_implies, hs]
        have hF : jaFr [72] [] S (jaUI (jaUI S 72 0 (465 + k) v) 72 0 38 (nI (k + 1))) := by
          (repeat' first | assumption | exact jaFr.rfl | refine jaFr.ui ?_ (by decide) (by decide) | refine jaFr.uf ?_ (by decide) | exact jaFr.mono (by assumption) (by decide) (by decide))
        rw [jaPt_eq, jaPt_ne (by decide), jaPt_ne (by omega)]
        refine ⟨fun q3 => ?_, fun q3 => ?_⟩
        · rw [jaIf1_f q3] at h
          exact h _ hs2 hF
        · rw [jaIf1_t q3] at h
          exact sp_M_savesAll (by omega) hs2 (jWw_c (fun j hj => by rw [jaPt_ne (by omega), jaPt_ne (by omega)]) hW.w) (fun S3 a f => h S3 a (hF.trans f))
      simp (disch := first | omega | decide) only [jaU_eq, jaU_U, nI_add, pk_mul, jaIx_nI, vp_inT, true_and, and_true, ↓jaO0, ↓jaO1, nI_z, nI_z2, nI_z3, nI_z4, nI_z5, nI_lt', nI_le', nI_eq', jaUI_at, jaPt_eq, jaPt_ne, jaUI_o, jaUI_2, jaUL_at, jaUL_o, jaUL_1, jaB_z, jaB_1, ↓jaB_01, Classical.not_not, and_self, true_or, or_true, nI_11, Nat.reduceEqDiff, Nat.reduceAdd, Nat.reduceMul, Nat.add_zero, Nat.zero_add, Nat.mul_zero, not_true_eq_false, not_false_eq_true, false_implies, true_implies, hs, k4]
      simp (disch := first | omega | decide) only [jaU_eq, jaU_U, nI_add, pk_mul, jaIx_nI, vp_inT, true_and, and_true, ↓jaO0, ↓jaO1, nI_z, nI_z2, nI_z3, nI_z4, nI_z5, nI_lt', nI_le', nI_eq', jaUI_at, jaPt_eq, jaPt_ne, jaUI_o, jaUI_2, jaUL_at, jaUL_o, jaUL_1, jaB_z, jaB_1, ↓jaB_01, Classical.not_not, and_self, true_or, or_true, nI_11, Nat.reduceEqDiff, Nat.reduceAdd, Nat.reduceMul, Nat.add_zero, Nat.zero_add, Nat.mul_zero, not_true_eq_false, not_false_eq_true, false_implies, true_implies, hs, k4] at hv
      refine ⟨fun q3 => ?_, fun q3 => ?_⟩
      · exact hv _ (jaIf1_f q3).symm
      · exact hv _ (jaIf1_t q3).symm
    · rw [jaIf1_t (Or.inr q2)] at h
      exact h S hs jaFr.rfl
set_option maxHeartbeats 2000000 in
theorem sp_M_agrees {D : Nat} (hD : 1 ≤ D) {kk : jaT → Prop} {σ : jaT} {S : jaS} {s d e : jvA} (hs : S.1 72 0 = s) (he : S.1 76 0 = e) (hW : jW s d e) (h : ∀ S', S'.1 72 0 = jvAg2 s e (jz s 0) → jaFr [72] [] S S' → kk (jaU σ 20 S')) : jaDe D jy_M_agrees [jaMo] (jaU σ 20 S) (jaKv kk) := by
  obtain ⟨D, rfl, hD⟩ := jaSuc hD
  obtain ⟨hS0, hS3⟩ := hW.w.1
  have e0 : ∀ n, jvAg2 s e n 0 = nI (jz s 0) := fun n => by rw [(jvAg2_W hW n).2.1 0 (by omega)]; exact hS0
  apply js_M_agrees
  refine jaFor (C := fun x => ∀ S' u2 u3 u4, S'.1 72 0 = jvAg2 s e x → jaFr [72] [] S S' → jc_M_agrees_1 D kk (nI x) u2 u3 u4 (jaU σ 20 S')) (N := jz s 0) ?_ (fun x hx ih => ?_) S none none none hs jaFr.rfl
  · intro S' u2 u3 u4 a f
    apply jb_M_agrees_1
    simp (disch := first | omega | decide) only [jaU_eq, jaU_U, nI_add, pk_mul, jaIx_nI, vp_inT, true_and, and_true, ↓jaO0, ↓jaO1, nI_z, nI_z2, nI_z3, nI_z4, nI_z5, nI_lt', nI_le', nI_eq', jaUI_at, jaPt_eq, jaPt_ne, jaUI_o, jaUI_2, jaUL_at, jaUL_o, jaUL_1, jaB_z, jaB_1, ↓jaB_01, Classical.not_not, and_self, true_or, or_true, nI_11, Nat.reduceEqDiff, Nat.reduceAdd, Nat.reduceMul, Nat.add_zero, Nat.zero_add, Nat.mul_zero, not_true_eq_false, not_false_eq_true, false_implies, true_implies, a]
    rw [e0]
    simp (disch := first | omega | decide) only [jaU_eq, jaU_U, nI_add, pk_mul, jaIx_nI, vp_inT, true_and, and_true, ↓jaO0, ↓jaO1, nI_z, nI_z2, nI_z3, nI_z4, nI_z5, nI_lt', nI_le', nI_eq', jaUI_at, jaPt_eq, jaPt_ne, jaUI_o, jaUI_2, jaUL_at, jaUL_o, jaUL_1, jaB_z, jaB_1, ↓jaB_01, Classical.not_not, and_self, true_or, or_true, nI_11, Nat.reduceEqDiff, Nat.reduceAdd, Nat.reduceMul, Nat.add_zero, Nat.zero_add, Nat.mul_zero, not_true_eq_false, not_false_eq_true, false_implies, true_implies]
    refine ⟨fun _ => ?_, fun q => absurd (by omega) q⟩
    exact h S' a f
  · intro S' u2 u3 u4 a f
    obtain ⟨w1, -, -, -⟩ := jvAg2_W hW x
    have e0x := e0 x
    have hst : jvAg2 s e (x + 1) = jvSite e x (jvAg2 s e x) := rfl
    rw [hst] at ih
    generalize jvAg2 s e x = s1 at *
    obtain ⟨hC, hC'⟩ := w1.o.came
    have hP := w1.o.pool.2
    apply jb_M_agrees_1
    simp (disch := first | omega | decide) only [jaU_eq, jaU_U, nI_add, pk_mul, jaIx_nI, vp_inT, true_and, and_true, ↓jaO0, ↓jaO1, nI_z, nI_z2, nI_z3, nI_z4, nI_z5, nI_lt', nI_le', nI_eq', jaUI_at, jaPt_eq, jaPt_ne, jaUI_o, jaUI_2, jaUL_at, jaUL_o, jaUL_1, jaB_z, jaB_1, ↓jaB_01, Classical.not_not, and_self, true_or, or_true, nI_11, Nat.reduceEqDiff, Nat.reduceAdd, Nat.reduceMul, Nat.add_zero, Nat.zero_add, Nat.mul_zero, not_true_eq_false, not_false_eq_true, false_implies, true_implies, a]
    rw [e0x]
    simp (disch := first | omega | decide) only [jaU_eq, jaU_U, nI_add, pk_mul, jaIx_nI, vp_inT, true_and, and_true, ↓jaO0, ↓jaO1, nI_z, nI_z2, nI_z3, nI_z4, nI_z5, nI_lt', nI_le', nI_eq', jaUI_at, jaPt_eq, jaPt_ne, jaUI_o, jaUI_2, jaUL_at, jaUL_o, jaUL_1, jaB_z, jaB_1, ↓jaB_01, Classical.not_not, and_self, true_or, or_true, nI_11, Nat.reduceEqDiff, Nat.reduceAdd, Nat.reduceMul, Nat.add_zero, Nat.zero_add, Nat.mul_zero, not_true_eq_false, not_false_eq_true, false_implies, true_implies]
    refine ⟨fun q => absurd q (by omega), fun _ => ?_⟩
    refine jaFor (C := fun k => ∀ S' u4, S'.1 72 0 = (jvAs s1 e x k).1 → jaFr [72] [] S S' → jc_M_agrees_2 D kk (nI x) (nI (jvAs s1 e x k).2) (nI k) u4 (jaU σ 20 S')) (N := jz s1 35) ?_ (fun k hk ih2 => ?_) S' _ a f
    · intro S2 u4 a2 f2
      have ha := jAg_all (e := e) (x := x) w1.o _ (Nat.le_refl _)
      have hr : jvSite e x s1 = jaPt (jvAz (jvAs s1 e x (jz s1 35)).1 (jvAs s1 e x (jz s1 35)).2 (jz s1 35 - (jvAs s1 e x (jz s1 35)).2)) 35 (nI (jvAs s1 e x (jz s1 35)).2) := rfl
      rw [hr] at ih
      generalize jvAs s1 e x (jz s1 35) = y at *
      obtain ⟨y1, y2⟩ := y
      have h35 : y1 35 = nI (jz s1 35) := (ha.1 35 (by omega) (by omega)).trans hC
      have hle : y2 ≤ jz s1 35 := ha.2.2.2.1.1
      apply jb_M_agrees_2
      simp (disch := first | omega | decide) only [jaU_eq, jaU_U, nI_add, pk_mul, jaIx_nI, vp_inT, true_and, and_true, ↓jaO0, ↓jaO1, nI_z, nI_z2, nI_z3, nI_z4, nI_z5, nI_lt', nI_le', nI_eq', jaUI_at, jaPt_eq, jaPt_ne, jaUI_o, jaUI_2, jaUL_at, jaUL_o, jaUL_1, jaB_z, jaB_1, ↓jaB_01, Classical.not_not, and_self, true_or, or_true, nI_11, Nat.reduceEqDiff, Nat.reduceAdd, Nat.reduceMul, Nat.add_zero, Nat.zero_add, Nat.mul_zero, not_true_eq_false, not_false_eq_true, false_implies, true_implies, a2]
      rw [h35]
      simp (disch := first | omega | decide) only [jaU_eq, jaU_U, nI_add, pk_mul, jaIx_nI, vp_inT, true_and, and_true, ↓jaO0, ↓jaO1, nI_z, nI_z2, nI_z3, nI_z4, nI_z5, nI_lt', nI_le', nI_eq', jaUI_at, jaPt_eq, jaPt_ne, jaUI_o, jaUI_2, jaUL_at, jaUL_o, jaUL_1, jaB_z, jaB_1, ↓jaB_01, Classical.not_not, and_self, true_or, or_true, nI_11, Nat.reduceEqDiff, Nat.reduceAdd, Nat.reduceMul, Nat.add_zero, Nat.zero_add, Nat.mul_zero, not_true_eq_false, not_false_eq_true, false_implies, true_implies]
      refine ⟨fun _ => ?_, fun q => absurd (by omega) q⟩
      refine jaForA (a := y2) (N := jz s1 35) (C := fun k => ∀ S', S'.1 72 0 = jvAz y1 y2 (k - y2) → jaFr [72] [] S S' → jc_M_agrees_6 D kk (nI x) (nI y2) (nI k) u4 (jaU σ 20 S')) hle ?_ (fun k h1 h2 ih3 => ?_) S2 (by rw [a2, Nat.sub_self]; rfl) f2
      · intro S3 a3 f3
        apply jb_M_agrees_6
        simp (disch := first | omega | decide) only [jaU_eq, jaU_U, nI_add, pk_mul, jaIx_nI, vp_inT, true_and, and_true, ↓jaO0, ↓jaO1, nI_z, nI_z2, nI_z3, nI_z4, nI_z5, nI_lt', nI_le', nI_eq', jaUI_at, jaPt_eq, jaPt_ne, jaUI_o, jaUI_2, jaUL_at, jaUL_o, jaUL_1, jaB_z, jaB_1, ↓jaB_01, Classical.not_not, and_self, true_or, or_true, nI_11, Nat.reduceEqDiff, Nat.reduceAdd, Nat.reduceMul, Nat.add_zero, Nat.zero_add, Nat.mul_zero, not_true_eq_false, not_false_eq_true, false_implies, true_implies, a3]
        rw [jvAz_at, jaIf1_f (by omega), h35]
        simp (disch := first | omega | decide) only [jaU_eq, jaU_U, nI_add, pk_mul, jaIx_nI, vp_inT, true_and, and_true, ↓jaO0, ↓jaO1, nI_z, nI_z2, nI_z3, nI_z4, nI_z5, nI_lt', nI_le', nI_eq', jaUI_at, jaPt_eq, jaPt_ne, jaUI_o, jaUI_2, jaUL_at, jaUL_o, jaUL_1, jaB_z, jaB_1, ↓jaB_01, Classical.not_not, and_self, true_or, or_true, nI_11, Nat.reduceEqDiff, Nat.reduceAdd, Nat.reduceMul, Nat.add_zero, Nat.zero_add, Nat.mul_zero, not_true_eq_false, not_false_eq_true, false_implies, true_implies]
        refine ⟨fun _ => ?_, fun q => absurd (by omega) q⟩
        refine ih _ _ _ _ ?_ ?_
        · simp (disch := first | omega | decide) only [jaU_eq, jaU_U, nI_add, pk_mul, jaIx_nI, vp_inT, true_and, and_true, ↓jaO0, ↓jaO1, nI_z, nI_z2, nI_z3, nI_z4, nI_z5, nI_lt', nI_le', nI_eq', jaUI_at, jaPt_eq, jaPt_ne, jaUI_o, jaUI_2, jaUL_at, jaUL_o, jaUL_1, jaB_z, jaB_1, ↓jaB_01, Classical.not_not, and_self, true_or, or_true, nI_11, Nat.reduceEqDiff, Nat.reduceAdd, Nat.reduceMul, Nat.add_zero, Nat.zero_add, Nat.mul_zero, not_true_eq_false, not_false_eq_true, false_implies, true_implies, a3]
        · (repeat' first | assumption | exact jaFr.rfl | refine jaFr.ui ?_ (by decide) (by decide) | refine jaFr.uf ?_ (by decide) | exact jaFr.mono (by assumption) (by decide) (by decide))
      · intro S3 a3 f3
        apply jb_M_agrees_6
        simp (disch := first | omega | decide) only [jaU_eq, jaU_U, nI_add, pk_mul, jaIx_nI, vp_inT, true_and, and_true, ↓jaO0, ↓jaO1, nI_z, nI_z2, nI_z3, nI_z4, nI_z5, nI_lt', nI_le', nI_eq', jaUI_at, jaPt_eq, jaPt_ne, jaUI_o, jaUI_2, jaUL_at, jaUL_o, jaUL_1, jaB_z, jaB_1, ↓jaB_01, Classical.not_not, and_self, true_or, or_true, nI_11, Nat.reduceEqDiff, Nat.reduceAdd, Nat.reduceMul, Nat.add_zero, Nat.zero_add, Nat.mul_zero, not_true_eq_false, not_false_eq_true, false_implies, true_implies, a3]
        rw [jvAz_at, jaIf1_f (by omega), h35]
        simp (disch := first | omega | decide) only [jaU_eq, jaU_U, nI_add, pk_mul, jaIx_nI, vp_inT, true_and, and_true, ↓jaO0, ↓jaO1, nI_z, nI_z2, nI_z3, nI_z4, nI_z5, nI_lt', nI_le', nI_eq', jaUI_at, jaPt_eq, jaPt_ne, jaUI_o, jaUI_2, jaUL_at, jaUL_o, jaUL_1, jaB_z, jaB_1, ↓jaB_01, Classical.not_not, and_self, true_or, or_true, nI_11, Nat.reduceEqDiff, Nat.reduceAdd, Nat.reduceMul, Nat.add_zero, Nat.zero_add, Nat.mul_zero, not_true_eq_false, not_false_eq_true, false_implies, true_implies]
        refine ⟨fun q => absurd q (by omega), fun _ => ?_⟩
        refine ih3 _ ?_ ?_
        · simp (disch := first | omega | decide) only [jaU_eq, jaU_U, nI_add, pk_mul, jaIx_nI, vp_inT, true_and, and_true, ↓jaO0, ↓jaO1, nI_z, nI_z2, nI_z3, nI_z4, nI_z5, nI_lt', nI_le', nI_eq', jaUI_at, jaPt_eq, jaPt_ne, jaUI_o, jaUI_2, jaUL_at, jaUL_o, jaUL_1, jaB_z, jaB_1, ↓jaB_01, Classical.not_not, and_self, true_or, or_true, nI_11, Nat.reduceEqDiff, Nat.reduceAdd, Nat.reduceMul, Nat.add_zero, Nat.zero_add, Nat.mul_zero, not_true_eq_false, not_false_eq_true, false_implies, true_implies, a3]
          rw [show k + 1 - y2 = (k - y2) + 1 by omega]
          show _ = jaPt (jvAz y1 y2 (k - y2)) (81 + y2 + (k - y2)) (nI 0)
          rw [show 81 + y2 + (k - y2) = 81 + k by omega]
        · (repeat' first | assumption | exact jaFr.rfl | refine jaFr.ui ?_ (by decide) (by decide) | refine jaFr.uf ?_ (by decide) | exact jaFr.mono (by assumption) (by decide) (by decide))
    · intro S2 u4 a2 f2
      have ha := jAg_all (e := e) (x := x) w1.o k (by omega)
      have hst2 : jvAs s1 e x (k + 1) = jvAs1 e x k (jvAs s1 e x k) := rfl
      rw [hst2] at ih2
      generalize jvAs s1 e x k = y at *
      obtain ⟨y1, y2⟩ := y
      obtain ⟨b1, ⟨b2, b2'⟩, b3, ⟨b4, b4'⟩, -, -, -, b8, -⟩ := ha
      simp only [] at b1 b2 b2' b3 b4 b4' b8 a2
      have h35 : y1 35 = nI (jz s1 35) := by rw [b1 35 (by omega) (by omega)]; exact hC
      obtain ⟨c1, c2⟩ := w1.o.come hk
      have hck : y1 (81 + k) = nI (jz s1 (81 + k)) := by rw [b8 k (Nat.le_refl _) hk]; exact c1
      generalize jz s1 (81 + k) = ck at *
      unfold jvAs1 at ih2
      simp only [] at ih2
      have hkeep : ∀ u4, ¬ (e (9 * ck + 1) = nI x ∧ ¬ nI 40 ≤ y1 34) → jc_M_agrees_2 D kk (nI x) (nI (y2 + 1)) (nI (k + 1)) u4 (jaU σ 20 (jaUI S2 72 0 (81 + y2) (nI ck))) := by
        intro u4 hq
        rw [hck, jaIx_nI (by omega), jaIf1_f hq] at ih2
        refine ih2 _ u4 ?_ ?_
        · simp (disch := first | omega | decide) only [jaU_eq, jaU_U, nI_add, pk_mul, jaIx_nI, vp_inT, true_and, and_true, ↓jaO0, ↓jaO1, nI_z, nI_z2, nI_z3, nI_z4, nI_z5, nI_lt', nI_le', nI_eq', jaUI_at, jaPt_eq, jaPt_ne, jaUI_o, jaUI_2, jaUL_at, jaUL_o, jaUL_1, jaB_z, jaB_1, ↓jaB_01, Classical.not_not, and_self, true_or, or_true, nI_11, Nat.reduceEqDiff, Nat.reduceAdd, Nat.reduceMul, Nat.add_zero, Nat.zero_add, Nat.mul_zero, not_true_eq_false, not_false_eq_true, false_implies, true_implies, a2]
        · (repeat' first | assumption | exact jaFr.rfl | refine jaFr.ui ?_ (by decide) (by decide) | refine jaFr.uf ?_ (by decide) | exact jaFr.mono (by assumption) (by decide) (by decide))
      have htake : ∀ u4, e (9 * ck + 1) = nI x → ¬ nI 40 ≤ y1 34 → jc_M_agrees_2 D kk (nI x) (nI y2) (nI (k + 1)) u4 (jaU σ 20 (jaUI (jaUI S2 72 0 (41 + jz y1 34) (nI ck)) 72 0 34 (nI (jz y1 34 + 1)))) := by
        intro u4 hq1 hq2
        rw [hck, jaIx_nI (by omega), jaIf1_t ⟨hq1, hq2⟩] at ih2
        refine ih2 _ u4 ?_ ?_
        · simp (disch := first | omega | decide) only [jaU_eq, jaU_U, nI_add, pk_mul, jaIx_nI, vp_inT, true_and, and_true, ↓jaO0, ↓jaO1, nI_z, nI_z2, nI_z3, nI_z4, nI_z5, nI_lt', nI_le', nI_eq', jaUI_at, jaPt_eq, jaPt_ne, jaUI_o, jaUI_2, jaUL_at, jaUL_o, jaUL_1, jaB_z, jaB_1, ↓jaB_01, Classical.not_not, and_self, true_or, or_true, nI_11, Nat.reduceEqDiff, Nat.reduceAdd, Nat.reduceMul, Nat.add_zero, Nat.zero_add, Nat.mul_zero, not_true_eq_false, not_false_eq_true, false_implies, true_implies, a2]
          rw [b2]
          simp (disch := first | omega | decide) only [jaU_eq, jaU_U, nI_add, pk_mul, jaIx_nI, vp_inT, true_and, and_true, ↓jaO0, ↓jaO1, nI_z, nI_z2, nI_z3, nI_z4, nI_z5, nI_lt', nI_le', nI_eq', jaUI_at, jaPt_eq, jaPt_ne, jaUI_o, jaUI_2, jaUL_at, jaUL_o, jaUL_1, jaB_z, jaB_1, ↓jaB_01, Classical.not_not, and_self, true_or, or_true, nI_11, Nat.reduceEqDiff, Nat.reduceAdd, Nat.reduceMul, Nat.add_zero, Nat.zero_add, Nat.mul_zero, not_true_eq_false, not_false_eq_true, false_implies, true_implies]
        · (repeat' first | assumption | exact jaFr.rfl | refine jaFr.ui ?_ (by decide) (by decide) | refine jaFr.uf ?_ (by decide) | exact jaFr.mono (by assumption) (by decide) (by decide))
      apply jb_M_agrees_2
      simp (disch := first | omega | decide) only [jaU_eq, jaU_U, nI_add, pk_mul, jaIx_nI, vp_inT, true_and, and_true, ↓jaO0, ↓jaO1, nI_z, nI_z2, nI_z3, nI_z4, nI_z5, nI_lt', nI_le', nI_eq', jaUI_at, jaPt_eq, jaPt_ne, jaUI_o, jaUI_2, jaUL_at, jaUL_o, jaUL_1, jaB_z, jaB_1, ↓jaB_01, Classical.not_not, and_self, true_or, or_true, nI_11, Nat.reduceEqDiff, Nat.reduceAdd, Nat.reduceMul, Nat.add_zero, Nat.zero_add, Nat.mul_zero, not_true_eq_false, not_false_eq_true, false_implies, true_implies, a2, hck]
      rw [h35]
      simp (disch := first | omega | decide) only [jaU_eq, jaU_U, nI_add, pk_mul, jaIx_nI, vp_inT, true_and, and_true, ↓jaO0, ↓jaO1, nI_z, nI_z2, nI_z3, nI_z4, nI_z5, nI_lt', nI_le', nI_eq', jaUI_at, jaPt_eq, jaPt_ne, jaUI_o, jaUI_2, jaUL_at, jaUL_o, jaUL_1, jaB_z, jaB_1, ↓jaB_01, Classical.not_not, and_self, true_or, or_true, nI_11, Nat.reduceEqDiff, Nat.reduceAdd, Nat.reduceMul, Nat.add_zero, Nat.zero_add, Nat.mul_zero, not_true_eq_false, not_false_eq_true, false_implies, true_implies, ((congrFun (f2.s 76 (by decide) (by decide)) 0).trans he)]
      refine ⟨fun q => absurd q (by omega), fun _ => ?_⟩
      refine ⟨fun q => hkeep _ (fun z => q z.1), fun q => ⟨fun q2 => hkeep _ (fun z => z.2 q2), fun q2 => ?_⟩⟩
      have z := htake (some (.inl (nI ck))) q q2
      rw [b2] at q2 ⊢
      rw [nI_le' (by omega) (by omega)] at q2
      simp (disch := first | omega | decide) only [jaU_eq, jaU_U, nI_add, pk_mul, jaIx_nI, vp_inT, true_and, and_true, ↓jaO0, ↓jaO1, nI_z, nI_z2, nI_z3, nI_z4, nI_z5, nI_lt', nI_le', nI_eq', jaUI_at, jaPt_eq, jaPt_ne, jaUI_o, jaUI_2, jaUL_at, jaUL_o, jaUL_1, jaB_z, jaB_1, ↓jaB_01, Classical.not_not, and_self, true_or, or_true, nI_11, Nat.reduceEqDiff, Nat.reduceAdd, Nat.reduceMul, Nat.add_zero, Nat.zero_add, Nat.mul_zero, not_true_eq_false, not_false_eq_true, false_implies, true_implies, a2]
      rw [b2]
      simp (disch := first | omega | decide) only [jaU_eq, jaU_U, nI_add, pk_mul, jaIx_nI, vp_inT, true_and, and_true, ↓jaO0, ↓jaO1, nI_z, nI_z2, nI_z3, nI_z4, nI_z5, nI_lt', nI_le', nI_eq', jaUI_at, jaPt_eq, jaPt_ne, jaUI_o, jaUI_2, jaUL_at, jaUL_o, jaUL_1, jaB_z, jaB_1, ↓jaB_01, Classical.not_not, and_self, true_or, or_true, nI_11, Nat.reduceEqDiff, Nat.reduceAdd, Nat.reduceMul, Nat.add_zero, Nat.zero_add, Nat.mul_zero, not_true_eq_false, not_false_eq_true, false_implies, true_implies]
      exact z
set_option maxHeartbeats 1000000 in
theorem sp_M_tick {D : Nat} (hD : 7 ≤ D) {kk : jaT → Prop} {σ : jaT} {S : jaS} {s d e : jvA} (hs : S.1 72 0 = s) (hd : S.1 75 0 = d) (he : S.1 76 0 = e) (hW : jW s d e) (h : ∀ S', S'.1 72 0 = (jvTick d (s, e)).1 → S'.1 76 0 = (jvTick d (s, e)).2 → jaFr [72, 76, 80, 82] [29] S S' → kk (jaU σ 20 S')) : jaDe D jy_M_tick [jaMo] (jaU σ 20 S) (jaKv kk) := by
  obtain ⟨D, rfl, hD⟩ := jaSuc hD
  obtain ⟨hC, hC1, hC3⟩ := hW.w.2.2.1
  apply js_M_tick
  refine jaFor (C := fun c => ∀ S', S'.1 72 0 = (jvCgs d (s, e) c).1 → S'.1 76 0 = (jvCgs d (s, e) c).2 → jaFr [72, 76, 80, 82] [29] S S' → jc_M_tick_1 D kk (nI c) (jaU σ 20 S')) (N := jz s 2) ?_ (fun c hc ih => ?_) S hs he jaFr.rfl
  · intro S' a b f
    obtain ⟨w1, w2⟩ := jvCgs_W hW (jz s 2) hC3
    rw [jvTick_eq] at h
    have e2 := w2.1 2 (Or.inl (by decide))
    generalize jvCgs d (s, e) (jz s 2) = x at *
    obtain ⟨s1, e1⟩ := x
    simp only [] at a b w1 w2 e2 h
    apply jb_M_tick_1
    simp (disch := first | omega | decide) only [jaU_eq, jaU_U, nI_add, pk_mul, jaIx_nI, vp_inT, true_and, and_true, ↓jaO0, ↓jaO1, nI_z, nI_z2, nI_z3, nI_z4, nI_z5, nI_lt', nI_le', nI_eq', jaUI_at, jaPt_eq, jaPt_ne, jaUI_o, jaUI_2, jaUL_at, jaUL_o, jaUL_1, jaB_z, jaB_1, ↓jaB_01, Classical.not_not, and_self, true_or, or_true, nI_11, Nat.reduceEqDiff, Nat.reduceAdd, Nat.reduceMul, Nat.add_zero, Nat.zero_add, Nat.mul_zero, not_true_eq_false, not_false_eq_true, false_implies, true_implies, a]
    rw [e2, hC]
    simp (disch := first | omega | decide) only [jaU_eq, jaU_U, nI_add, pk_mul, jaIx_nI, vp_inT, true_and, and_true, ↓jaO0, ↓jaO1, nI_z, nI_z2, nI_z3, nI_z4, nI_z5, nI_lt', nI_le', nI_eq', jaUI_at, jaPt_eq, jaPt_ne, jaUI_o, jaUI_2, jaUL_at, jaUL_o, jaUL_1, jaB_z, jaB_1, ↓jaB_01, Classical.not_not, and_self, true_or, or_true, nI_11, Nat.reduceEqDiff, Nat.reduceAdd, Nat.reduceMul, Nat.add_zero, Nat.zero_add, Nat.mul_zero, not_true_eq_false, not_false_eq_true, false_implies, true_implies]
    refine ⟨fun _ => ?_, fun q => absurd (by omega) q⟩
    refine sp_M_takesNext (by omega) a w1 (fun S2 a2 f2 => ?_)
    have w2 := jvTn_W w1
    have w3 := (jvT2_W w2).1
    have hw3 := w2.w.2.2.2.1
    have h2 : ∀ S', S'.1 72 0 = jaPt (jvT2 (jvTn s1) e1) 31 (jvT2 (jvTn s1) e1 31 + nI 1) → S'.1 76 0 = e1 → jaFr [72, 76, 80, 82] [29] S S' → kk (jaU σ 20 S') := h
    generalize jvTn s1 = s2 at *
    unfold jvT2 at h2
    have f3 := f.trans (f2.mono (by decide) (by decide))
    have b2 := ((congrFun (f2.s 76 (by decide) (by decide)) 0).trans b)
    simp (disch := first | omega | decide) only [jaU_eq, jaU_U, nI_add, pk_mul, jaIx_nI, vp_inT, true_and, and_true, ↓jaO0, ↓jaO1, nI_z, nI_z2, nI_z3, nI_z4, nI_z5, nI_lt', nI_le', nI_eq', jaUI_at, jaPt_eq, jaPt_ne, jaUI_o, jaUI_2, jaUL_at, jaUL_o, jaUL_1, jaB_z, jaB_1, ↓jaB_01, Classical.not_not, and_self, true_or, or_true, nI_11, Nat.reduceEqDiff, Nat.reduceAdd, Nat.reduceMul, Nat.add_zero, Nat.zero_add, Nat.mul_zero, not_true_eq_false, not_false_eq_true, false_implies, true_implies, a2]
    refine ⟨by rw [hw3.1, nI_z (by omega)]; omega, fun q => ?_, fun q => ?_⟩
    · rw [jaIf1_f q] at h2
      refine h2 _ ?_ ?_ ?_
      · simp (disch := first | omega | decide) only [jaU_eq, jaU_U, nI_add, pk_mul, jaIx_nI, vp_inT, true_and, and_true, ↓jaO0, ↓jaO1, nI_z, nI_z2, nI_z3, nI_z4, nI_z5, nI_lt', nI_le', nI_eq', jaUI_at, jaPt_eq, jaPt_ne, jaUI_o, jaUI_2, jaUL_at, jaUL_o, jaUL_1, jaB_z, jaB_1, ↓jaB_01, Classical.not_not, and_self, true_or, or_true, nI_11, Nat.reduceEqDiff, Nat.reduceAdd, Nat.reduceMul, Nat.add_zero, Nat.zero_add, Nat.mul_zero, not_true_eq_false, not_false_eq_true, false_implies, true_implies, a2]
      · simp (disch := first | omega | decide) only [jaU_eq, jaU_U, nI_add, pk_mul, jaIx_nI, vp_inT, true_and, and_true, ↓jaO0, ↓jaO1, nI_z, nI_z2, nI_z3, nI_z4, nI_z5, nI_lt', nI_le', nI_eq', jaUI_at, jaPt_eq, jaPt_ne, jaUI_o, jaUI_2, jaUL_at, jaUL_o, jaUL_1, jaB_z, jaB_1, ↓jaB_01, Classical.not_not, and_self, true_or, or_true, nI_11, Nat.reduceEqDiff, Nat.reduceAdd, Nat.reduceMul, Nat.add_zero, Nat.zero_add, Nat.mul_zero, not_true_eq_false, not_false_eq_true, false_implies, true_implies, b2]
      · (repeat' first | assumption | exact jaFr.rfl | refine jaFr.ui ?_ (by decide) (by decide) | refine jaFr.uf ?_ (by decide) | exact jaFr.mono (by assumption) (by decide) (by decide))
    · rw [jaIf1_t q] at h2
      refine sp_M_agrees (by omega) a2 b2 w2 (fun S3 a3 f4 => ?_)
      have f5 := f3.trans (f4.mono (by decide) (by decide))
      simp (disch := first | omega | decide) only [jaU_eq, jaU_U, nI_add, pk_mul, jaIx_nI, vp_inT, true_and, and_true, ↓jaO0, ↓jaO1, nI_z, nI_z2, nI_z3, nI_z4, nI_z5, nI_lt', nI_le', nI_eq', jaUI_at, jaPt_eq, jaPt_ne, jaUI_o, jaUI_2, jaUL_at, jaUL_o, jaUL_1, jaB_z, jaB_1, ↓jaB_01, Classical.not_not, and_self, true_or, or_true, nI_11, Nat.reduceEqDiff, Nat.reduceAdd, Nat.reduceMul, Nat.add_zero, Nat.zero_add, Nat.mul_zero, not_true_eq_false, not_false_eq_true, false_implies, true_implies, a3]
      refine h2 _ ?_ ?_ ?_
      · simp (disch := first | omega | decide) only [jaU_eq, jaU_U, nI_add, pk_mul, jaIx_nI, vp_inT, true_and, and_true, ↓jaO0, ↓jaO1, nI_z, nI_z2, nI_z3, nI_z4, nI_z5, nI_lt', nI_le', nI_eq', jaUI_at, jaPt_eq, jaPt_ne, jaUI_o, jaUI_2, jaUL_at, jaUL_o, jaUL_1, jaB_z, jaB_1, ↓jaB_01, Classical.not_not, and_self, true_or, or_true, nI_11, Nat.reduceEqDiff, Nat.reduceAdd, Nat.reduceMul, Nat.add_zero, Nat.zero_add, Nat.mul_zero, not_true_eq_false, not_false_eq_true, false_implies, true_implies, a3]
      · simp (disch := first | omega | decide) only [jaU_eq, jaU_U, nI_add, pk_mul, jaIx_nI, vp_inT, true_and, and_true, ↓jaO0, ↓jaO1, nI_z, nI_z2, nI_z3, nI_z4, nI_z5, nI_lt', nI_le', nI_eq', jaUI_at, jaPt_eq, jaPt_ne, jaUI_o, jaUI_2, jaUL_at, jaUL_o, jaUL_1, jaB_z, jaB_1, ↓jaB_01, Classical.not_not, and_self, true_or, or_true, nI_11, Nat.reduceEqDiff, Nat.reduceAdd, Nat.reduceMul, Nat.add_zero, Nat.zero_add, Nat.mul_zero, not_true_eq_false, not_false_eq_true, false_implies, true_implies, ((congrFun (f4.s 76 (by decide) (by decide)) 0).trans b2)]
      · (repeat' first | assumption | exact jaFr.rfl | refine jaFr.ui ?_ (by decide) (by decide) | refine jaFr.uf ?_ (by decide) | exact jaFr.mono (by assumption) (by decide) (by decide))
  · intro S' a b f
    obtain ⟨w1, w2⟩ := jvCgs_W hW c (by omega)
    have hst : jvCgs d (s, e) (c + 1) = jvCg d c (jvCgs d (s, e) c) := rfl
    rw [hst] at ih
    have e2 := w2.1 2 (Or.inl (by decide))
    generalize jvCgs d (s, e) c = x at *
    obtain ⟨s1, e1⟩ := x
    simp only [] at a b w1 w2 e2
    apply jb_M_tick_1
    simp (disch := first | omega | decide) only [jaU_eq, jaU_U, nI_add, pk_mul, jaIx_nI, vp_inT, true_and, and_true, ↓jaO0, ↓jaO1, nI_z, nI_z2, nI_z3, nI_z4, nI_z5, nI_lt', nI_le', nI_eq', jaUI_at, jaPt_eq, jaPt_ne, jaUI_o, jaUI_2, jaUL_at, jaUL_o, jaUL_1, jaB_z, jaB_1, ↓jaB_01, Classical.not_not, and_self, true_or, or_true, nI_11, Nat.reduceEqDiff, Nat.reduceAdd, Nat.reduceMul, Nat.add_zero, Nat.zero_add, Nat.mul_zero, not_true_eq_false, not_false_eq_true, false_implies, true_implies, a]
    rw [e2, hC]
    simp (disch := first | omega | decide) only [jaU_eq, jaU_U, nI_add, pk_mul, jaIx_nI, vp_inT, true_and, and_true, ↓jaO0, ↓jaO1, nI_z, nI_z2, nI_z3, nI_z4, nI_z5, nI_lt', nI_le', nI_eq', jaUI_at, jaPt_eq, jaPt_ne, jaUI_o, jaUI_2, jaUL_at, jaUL_o, jaUL_1, jaB_z, jaB_1, ↓jaB_01, Classical.not_not, and_self, true_or, or_true, nI_11, Nat.reduceEqDiff, Nat.reduceAdd, Nat.reduceMul, Nat.add_zero, Nat.zero_add, Nat.mul_zero, not_true_eq_false, not_false_eq_true, false_implies, true_implies]
    refine ⟨fun q => absurd q (by omega), fun _ => ?_⟩
    exact sp_M_copyGoes (by omega) a ((congrFun (f.s 75 (by decide) (by decide)) 0).trans hd) b (by rw [jz_c e2]; exact hc) w1 (fun S2 a2 b2 f2 => ih S2 a2 b2 (f.trans f2))
theorem sp_M_goesOn {D : Nat} (hD : 8 ≤ D) {kk : Int32 → jaT → Prop} {σ : jaT} {S : jaS} {s d e : jvA} (hs : S.1 72 0 = s) (hd : S.1 75 0 = d) (he : S.1 76 0 = e) (hW : jW s d e) {n : Nat} (hn : n ≤ 60) (ht : jz s 31 ≤ 1000) (h : ∀ S', S'.1 72 0 = (jvTicks d (s, e) (min n (1000 - jz s 31))).1 → S'.1 76 0 = (jvTicks d (s, e) (min n (1000 - jz s 31))).2 → jaFr [72, 76, 80, 82] [29] S S' → kk (nI (min n (1000 - jz s 31))) (jaU σ 20 S')) : jaDe D jy_M_goesOn [jaMo, .inl (nI n)] (jaU σ 20 S) (jaKi kk) := by
  obtain ⟨D, rfl, hD⟩ := jaSuc hD
  apply js_M_goesOn
  refine jaFor (C := fun c => ∀ S', S'.1 72 0 = (jvTicks d (s, e) c).1 → S'.1 76 0 = (jvTicks d (s, e) c).2 → jaFr [72, 76, 80, 82] [29] S S' → jc_M_goesOn_1 D kk (nI n) (nI c) (jaU σ 20 S')) (N := min n (1000 - jz s 31)) ?_ (fun c hc ih => ?_) S hs he jaFr.rfl
  · intro S' a b f
    obtain ⟨w1, w2, w3, w4, w5⟩ := jvTicks_W hW (min n (1000 - jz s 31)) (by omega)
    have w6 := w1.t
    apply jb_M_goesOn_1
    simp (disch := first | omega | decide) only [jaU_eq, jaU_U, nI_add, pk_mul, jaIx_nI, vp_inT, true_and, and_true, ↓jaO0, ↓jaO1, nI_z, nI_z2, nI_z3, nI_z4, nI_z5, nI_lt', nI_le', nI_eq', jaUI_at, jaPt_eq, jaPt_ne, jaUI_o, jaUI_2, jaUL_at, jaUL_o, jaUL_1, jaB_z, jaB_1, ↓jaB_01, Classical.not_not, and_self, true_or, or_true, nI_11, Nat.reduceEqDiff, Nat.reduceAdd, Nat.reduceMul, Nat.add_zero, Nat.zero_add, Nat.mul_zero, not_true_eq_false, not_false_eq_true, false_implies, true_implies, a]
    rw [w6]
    simp (disch := first | omega | decide) only [jaU_eq, jaU_U, nI_add, pk_mul, jaIx_nI, vp_inT, true_and, and_true, ↓jaO0, ↓jaO1, nI_z, nI_z2, nI_z3, nI_z4, nI_z5, nI_lt', nI_le', nI_eq', jaUI_at, jaPt_eq, jaPt_ne, jaUI_o, jaUI_2, jaUL_at, jaUL_o, jaUL_1, jaB_z, jaB_1, ↓jaB_01, Classical.not_not, and_self, true_or, or_true, nI_11, Nat.reduceEqDiff, Nat.reduceAdd, Nat.reduceMul, Nat.add_zero, Nat.zero_add, Nat.mul_zero, not_true_eq_false, not_false_eq_true, false_implies, true_implies]
    refine ⟨fun _ => h S' a b f, fun q => ⟨fun _ => h S' a b f, fun q2 => absurd q2 (by omega)⟩⟩
  · intro S' a b f
    obtain ⟨w1, w2, w3, w4, w5⟩ := jvTicks_W hW c (by omega)
    have hst : jvTicks d (s, e) (c + 1) = jvTick d (jvTicks d (s, e) c) := rfl
    rw [hst] at ih
    have w6 := w1.t
    generalize jvTicks d (s, e) c = x at *
    obtain ⟨s1, e1⟩ := x
    simp only [] at a b w1 w2 w5 w6
    apply jb_M_goesOn_1
    simp (disch := first | omega | decide) only [jaU_eq, jaU_U, nI_add, pk_mul, jaIx_nI, vp_inT, true_and, and_true, ↓jaO0, ↓jaO1, nI_z, nI_z2, nI_z3, nI_z4, nI_z5, nI_lt', nI_le', nI_eq', jaUI_at, jaPt_eq, jaPt_ne, jaUI_o, jaUI_2, jaUL_at, jaUL_o, jaUL_1, jaB_z, jaB_1, ↓jaB_01, Classical.not_not, and_self, true_or, or_true, nI_11, Nat.reduceEqDiff, Nat.reduceAdd, Nat.reduceMul, Nat.add_zero, Nat.zero_add, Nat.mul_zero, not_true_eq_false, not_false_eq_true, false_implies, true_implies, a]
    rw [w6]
    simp (disch := first | omega | decide) only [jaU_eq, jaU_U, nI_add, pk_mul, jaIx_nI, vp_inT, true_and, and_true, ↓jaO0, ↓jaO1, nI_z, nI_z2, nI_z3, nI_z4, nI_z5, nI_lt', nI_le', nI_eq', jaUI_at, jaPt_eq, jaPt_ne, jaUI_o, jaUI_2, jaUL_at, jaUL_o, jaUL_1, jaB_z, jaB_1, ↓jaB_01, Classical.not_not, and_self, true_or, or_true, nI_11, Nat.reduceEqDiff, Nat.reduceAdd, Nat.reduceMul, Nat.add_zero, Nat.zero_add, Nat.mul_zero, not_true_eq_false, not_false_eq_true, false_implies, true_implies]
    refine ⟨fun q => absurd q (by omega), fun _ => ⟨fun q => absurd q (by omega), fun _ => ?_⟩⟩
    exact sp_M_tick (by omega) a ((congrFun (f.s 75 (by decide) (by decide)) 0).trans hd) b w1 (fun S2 a2 b2 f2 => ih S2 a2 b2 (f.trans f2))
end
