section
/-! the reference: how an entry goes, and what it writes -/
theorem jvKey_n {k a : Nat} {d e : jvA} {id p : Nat} (hf : jWf k a d p) (he : ∀ j, j < a → e (9 * id + 5 + j) = nI (jz e (9 * id + 5 + j)) ∧ jz e (9 * id + 5 + j) < k) (ha : a ≤ 4) : ∃ q, q < k ∧ jvKey d e id p = nI q := by
  obtain ⟨h1, h2, h3 | ⟨h3, h4⟩⟩ := hf
  · exact ⟨_, h2, by rw [jvKey, h3, jaIf1_f (by decide)]; exact h1⟩
  · refine ⟨_, (he _ h4).2, ?_⟩
    rw [jvKey, h3, jaIf1_t (nI_pos' (by omega)), jaIx_nI (by omega)]
    exact (he _ h4).1
theorem jvSts_s {d e : jvA} {id b m k : Nat} {v : jvA} {w : Int32} : jvSts d e id b (m + 1) k v w = jaIf1 (d (b + 7 + 21 * k) = nI 1) (jaIf1 (jvOk (d (b + 7 + 21 * k + 3)) (v (jaIx (jvKey d e id (b + 7 + 21 * k + 1)))) (jvSum d e id v (b + 7 + 21 * k) (jz d (b + 7 + 21 * k + 4)))) (jvSts d e id b m (k + 1) v w) none)
    (jvSts d e id b m (k + 1) (jaPt v (jaIx (jvKey d e id (b + 7 + 21 * k + 1))) (jvSum d e id v (b + 7 + 21 * k) (jz d (b + 7 + 21 * k + 4)))) (w ||| jaMk (jvKey d e id (b + 7 + 21 * k + 1)))) := rfl
theorem sp_M_valueBy_72 {D : Nat} (hD : 2 ≤ D) {kk : Int32 → jaT → Prop} {σ : jaT} {S : jaS} {R v : jvA} {w : Int32} {f k : Nat} (hR : S.1 72 0 = R) (hw : S.1 70 0 29 = w) (hk : k < 10) (hf : f + k < 706) (hv : v k = jaIf1 (jaBt w k) (S.1 80 0 k) (R (f + k))) (h : kk (v k) (jaU σ 20 S)) : jaDe D jy_M_valueBy [jaMo, .inr (.inr (72, 20, 0)), .inl (nI f), .inl (nI k)] (jaU σ 20 S) (jaKi kk) := by
  obtain ⟨D, rfl, hD⟩ := jaSuc hD
  apply js_M_valueBy_72
  simp (disch := first | omega | decide) only [jaU_eq, jaU_U, nI_add, pk_mul, jaIx_nI, vp_inT, true_and, and_true, ↓jaO0, ↓jaO1, nI_z, nI_z2, nI_z3, nI_z4, nI_z5, nI_lt', nI_le', nI_eq', jaUI_at, jaPt_eq, jaPt_ne, jaUI_o, jaUI_2, jaUL_at, jaUL_o, jaUL_1, jaB_z, jaB_1, ↓jaB_01, Classical.not_not, and_self, true_or, or_true, nI_11, Nat.reduceEqDiff, Nat.reduceAdd, Nat.reduceMul, Nat.add_zero, Nat.zero_add, Nat.mul_zero, not_true_eq_false, not_false_eq_true, false_implies, true_implies, hw]
  apply sp_M_bitOf (by omega)
  simp (disch := first | omega | decide) only [jaU_eq, jaU_U, nI_add, pk_mul, jaIx_nI, vp_inT, true_and, and_true, ↓jaO0, ↓jaO1, nI_z, nI_z2, nI_z3, nI_z4, nI_z5, nI_lt', nI_le', nI_eq', jaUI_at, jaPt_eq, jaPt_ne, jaUI_o, jaUI_2, jaUL_at, jaUL_o, jaUL_1, jaB_z, jaB_1, ↓jaB_01, Classical.not_not, and_self, true_or, or_true, nI_11, Nat.reduceEqDiff, Nat.reduceAdd, Nat.reduceMul, Nat.add_zero, Nat.zero_add, Nat.mul_zero, not_true_eq_false, not_false_eq_true, false_implies, true_implies, hR]
  rw [hv] at h
  refine ⟨fun q => ?_, fun q => ?_⟩
  · rwa [jaIf1_f q] at h
  · rwa [jaIf1_t q] at h
theorem sp_M_termBy_72 {D : Nat} (hD : 3 ≤ D) {kk : Int32 → jaT → Prop} {σ : jaT} {S : jaS} {d e R v : jvA} {w : Int32} {f k a id u : Nat} (hd : S.1 75 0 = d) (he : S.1 76 0 = e) (hR : S.1 72 0 = R) (hw : S.1 70 0 29 = w) (hf : f + 10 ≤ 706) (hid : id < 64) (hk : k ≤ 10) (ha : a ≤ 4) (hu : u < 3180)
    (hv : ∀ k, k < 10 → v k = jaIf1 (jaBt w k) (S.1 80 0 k) (R (f + k))) (hfu : jWu k a d u) (hfe : ∀ j, j < a → e (9 * id + 5 + j) = nI (jz e (9 * id + 5 + j)) ∧ jz e (9 * id + 5 + j) < k)
    (h : kk (jvTm d e id v u) (jaU σ 20 S)) : jaDe D jy_M_termBy [jaMo, .inr (.inr (72, 20, 0)), .inl (nI f), .inl (nI id), .inl (nI u)] (jaU σ 20 S) (jaKi kk) := by
  obtain ⟨D, rfl, hD⟩ := jaSuc hD
  apply js_M_termBy_72
  simp (disch := first | omega | decide) only [jaU_eq, jaU_U, nI_add, pk_mul, jaIx_nI, vp_inT, true_and, and_true, ↓jaO0, ↓jaO1, nI_z, nI_z2, nI_z3, nI_z4, nI_z5, nI_lt', nI_le', nI_eq', jaUI_at, jaPt_eq, jaPt_ne, jaUI_o, jaUI_2, jaUL_at, jaUL_o, jaUL_1, jaB_z, jaB_1, ↓jaB_01, Classical.not_not, and_self, true_or, or_true, nI_11, Nat.reduceEqDiff, Nat.reduceAdd, Nat.reduceMul, Nat.add_zero, Nat.zero_add, Nat.mul_zero, not_true_eq_false, not_false_eq_true, false_implies, true_implies, hd]
  obtain ⟨h1, h2⟩ := hfu
  unfold jvTm at h
  refine ⟨fun q => ?_, fun q => ?_⟩
  · rcases h1 with ⟨h1, _⟩ | ⟨h1, h3⟩
    · rw [h1] at q
      exact absurd nI_0 q
    · apply sp_M_keyBy (by omega) he hid h3 ha
      obtain ⟨z, hz, hz2⟩ := jvKey_n h3 hfe ha
      rw [hz2]
      apply sp_M_valueBy_72 (by omega) hR hw (by omega) (by omega) (hv z (by omega))
      simp (disch := first | omega | decide) only [jaU_eq, jaU_U, nI_add, pk_mul, jaIx_nI, vp_inT, true_and, and_true, ↓jaO0, ↓jaO1, nI_z, nI_z2, nI_z3, nI_z4, nI_z5, nI_lt', nI_le', nI_eq', jaUI_at, jaPt_eq, jaPt_ne, jaUI_o, jaUI_2, jaUL_at, jaUL_o, jaUL_1, jaB_z, jaB_1, ↓jaB_01, Classical.not_not, and_self, true_or, or_true, nI_11, Nat.reduceEqDiff, Nat.reduceAdd, Nat.reduceMul, Nat.add_zero, Nat.zero_add, Nat.mul_zero, not_true_eq_false, not_false_eq_true, false_implies, true_implies, hd]
      rw [jaIf1_f q, hz2, jaIx_nI (by omega)] at h
      refine ⟨fun q2 => ?_, fun q2 => ?_⟩
      · rwa [jaIf1_f q2] at h
      · rwa [jaIf1_t q2] at h
  · rw [jaIf1_t q] at h
    refine ⟨fun q2 => ?_, fun q2 => ?_⟩
    · rwa [jaIf1_f q2] at h
    · rwa [jaIf1_t q2] at h

theorem sp_M_valueBy_81 {D : Nat} (hD : 2 ≤ D) {kk : Int32 → jaT → Prop} {σ : jaT} {S : jaS} {R v : jvA} {w : Int32} {f k : Nat} (hR : S.1 81 0 = R) (hw : S.1 70 0 29 = w) (hk : k < 10) (hf : f + k < 10) (hv : v k = jaIf1 (jaBt w k) (S.1 80 0 k) (R (f + k))) (h : kk (v k) (jaU σ 20 S)) : jaDe D jy_M_valueBy [jaMo, .inr (.inr (81, 20, 0)), .inl (nI f), .inl (nI k)] (jaU σ 20 S) (jaKi kk) := by
  obtain ⟨D, rfl, hD⟩ := jaSuc hD
  apply js_M_valueBy_81
  simp (disch := first | omega | decide) only [jaU_eq, jaU_U, nI_add, pk_mul, jaIx_nI, vp_inT, true_and, and_true, ↓jaO0, ↓jaO1, nI_z, nI_z2, nI_z3, nI_z4, nI_z5, nI_lt', nI_le', nI_eq', jaUI_at, jaPt_eq, jaPt_ne, jaUI_o, jaUI_2, jaUL_at, jaUL_o, jaUL_1, jaB_z, jaB_1, ↓jaB_01, Classical.not_not, and_self, true_or, or_true, nI_11, Nat.reduceEqDiff, Nat.reduceAdd, Nat.reduceMul, Nat.add_zero, Nat.zero_add, Nat.mul_zero, not_true_eq_false, not_false_eq_true, false_implies, true_implies, hw]
  apply sp_M_bitOf (by omega)
  simp (disch := first | omega | decide) only [jaU_eq, jaU_U, nI_add, pk_mul, jaIx_nI, vp_inT, true_and, and_true, ↓jaO0, ↓jaO1, nI_z, nI_z2, nI_z3, nI_z4, nI_z5, nI_lt', nI_le', nI_eq', jaUI_at, jaPt_eq, jaPt_ne, jaUI_o, jaUI_2, jaUL_at, jaUL_o, jaUL_1, jaB_z, jaB_1, ↓jaB_01, Classical.not_not, and_self, true_or, or_true, nI_11, Nat.reduceEqDiff, Nat.reduceAdd, Nat.reduceMul, Nat.add_zero, Nat.zero_add, Nat.mul_zero, not_true_eq_false, not_false_eq_true, false_implies, true_implies, hR]
  rw [hv] at h
  refine ⟨fun q => ?_, fun q => ?_⟩
  · rwa [jaIf1_f q] at h
  · rwa [jaIf1_t q] at h
theorem sp_M_termBy_81 {D : Nat} (hD : 3 ≤ D) {kk : Int32 → jaT → Prop} {σ : jaT} {S : jaS} {d e R v : jvA} {w : Int32} {f k a id u : Nat} (hd : S.1 75 0 = d) (he : S.1 76 0 = e) (hR : S.1 81 0 = R) (hw : S.1 70 0 29 = w) (hf : f + 10 ≤ 10) (hid : id < 64) (hk : k ≤ 10) (ha : a ≤ 4) (hu : u < 3180)
    (hv : ∀ k, k < 10 → v k = jaIf1 (jaBt w k) (S.1 80 0 k) (R (f + k))) (hfu : jWu k a d u) (hfe : ∀ j, j < a → e (9 * id + 5 + j) = nI (jz e (9 * id + 5 + j)) ∧ jz e (9 * id + 5 + j) < k)
    (h : kk (jvTm d e id v u) (jaU σ 20 S)) : jaDe D jy_M_termBy [jaMo, .inr (.inr (81, 20, 0)), .inl (nI f), .inl (nI id), .inl (nI u)] (jaU σ 20 S) (jaKi kk) := by
  obtain ⟨D, rfl, hD⟩ := jaSuc hD
  apply js_M_termBy_81
  simp (disch := first | omega | decide) only [jaU_eq, jaU_U, nI_add, pk_mul, jaIx_nI, vp_inT, true_and, and_true, ↓jaO0, ↓jaO1, nI_z, nI_z2, nI_z3, nI_z4, nI_z5, nI_lt', nI_le', nI_eq', jaUI_at, jaPt_eq, jaPt_ne, jaUI_o, jaUI_2, jaUL_at, jaUL_o, jaUL_1, jaB_z, jaB_1, ↓jaB_01, Classical.not_not, and_self, true_or, or_true, nI_11, Nat.reduceEqDiff, Nat.reduceAdd, Nat.reduceMul, Nat.add_zero, Nat.zero_add, Nat.mul_zero, not_true_eq_false, not_false_eq_true, false_implies, true_implies, hd]
  obtain ⟨h1, h2⟩ := hfu
  unfold jvTm at h
  refine ⟨fun q => ?_, fun q => ?_⟩
  · rcases h1 with ⟨h1, _⟩ | ⟨h1, h3⟩
    · rw [h1] at q
      exact absurd nI_0 q
    · apply sp_M_keyBy (by omega) he hid h3 ha
      obtain ⟨z, hz, hz2⟩ := jvKey_n h3 hfe ha
      rw [hz2]
      apply sp_M_valueBy_81 (by omega) hR hw (by omega) (by omega) (hv z (by omega))
      simp (disch := first | omega | decide) only [jaU_eq, jaU_U, nI_add, pk_mul, jaIx_nI, vp_inT, true_and, and_true, ↓jaO0, ↓jaO1, nI_z, nI_z2, nI_z3, nI_z4, nI_z5, nI_lt', nI_le', nI_eq', jaUI_at, jaPt_eq, jaPt_ne, jaUI_o, jaUI_2, jaUL_at, jaUL_o, jaUL_1, jaB_z, jaB_1, ↓jaB_01, Classical.not_not, and_self, true_or, or_true, nI_11, Nat.reduceEqDiff, Nat.reduceAdd, Nat.reduceMul, Nat.add_zero, Nat.zero_add, Nat.mul_zero, not_true_eq_false, not_false_eq_true, false_implies, true_implies, hd]
      rw [jaIf1_f q, hz2, jaIx_nI (by omega)] at h
      refine ⟨fun q2 => ?_, fun q2 => ?_⟩
      · rwa [jaIf1_f q2] at h
      · rwa [jaIf1_t q2] at h
  · rw [jaIf1_t q] at h
    refine ⟨fun q2 => ?_, fun q2 => ?_⟩
    · rwa [jaIf1_f q2] at h
    · rwa [jaIf1_t q2] at h
end
