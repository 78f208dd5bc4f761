section
/-! the class: what an entry uses, and how it goes -/
abbrev jcSt (k : Nat) : jaV := .inr (.inr (40, k, 0))
abbrev jcSc (k : Nat) : jaV := .inr (.inr (54, k, 0))
theorem jcPl_lt {K a : Nat} {d : jvA} {q : Nat} (hf : jWf K a d q) (ha : a ≤ 4) (hK : K ≤ 10) : jcRef d q < 3000 := by
  obtain ⟨f1, f2, f3 | ⟨f3, f4⟩⟩ := hf
  · rw [jcRef, f3, jaIf1_f (by decide)]
    omega
  · rw [jcRef, f3, jaIf1_t (nI_pos' (by omega))]
    omega
/-- a term's key -/
theorem sp_Sc_keyOf_t {D : Nat} (hD : 1 ≤ D) {kk : Int32 → jaT → Prop} {σ : jaT} {k id u K a : Nat} {d e : jvA} {x : Int32} (hx : x = nI (jcPl d u) ∨ x = (-1 : Int32) - nI (jcPl d u)) (hid : id < 64) (hu : jWu K a d u) (ha : a ≤ 4) (hK : K ≤ 10) (hfe : ∀ j, j < a → (σ k).1 67 0 (4 * id + j) = e (9 * id + 5 + j))
    (h0 : d u = nI 0 → jcPl d u < 1000 → kk (-1) σ) (h1 : d u = nI 1 → kk (jvKey d e id (u + 1)) σ) :
    jaDe D jy_Sc_keyOf [.inl x, .inr (.inr (67, k, 0)), .inl (nI (4 * id))] σ (jaKi kk) := by
  unfold jcPl at hx h0
  rcases hu.1 with ⟨z1, z2, z3⟩ | ⟨z1, z2⟩
  · rw [jaIf1_t (by rw [z1]; decide)] at hx h0
    exact sp_Sc_keyOf hD hx (by omega) (by omega) (fun _ => h0 z1 z3) (fun q => absurd q (by omega)) (fun q => absurd q (by omega))
  · rw [jaIf1_f (by rw [z1]; decide)] at hx
    exact sp_Sc_keyOf_r hD hx hid z2 ha hK hfe (h1 z1)
theorem jcTm_or (d : jvA) (u : Nat) : jcTm d u = nI (jcPl d u) ∨ jcTm d u = (-1 : Int32) - nI (jcPl d u) := by
  unfold jcTm jaIf1
  split
  · exact Or.inr rfl
  · exact Or.inl rfl
theorem jcIx (n i : Nat) : (n * 6 + i) * 7 = 42 * n + 7 * i := by omega
set_option maxHeartbeats 1000000 in
theorem sp_Sc_writesOf {D : Nat} (hD : 2 ≤ D) {kk : Int32 → jaT → Prop} {σ : jaT} {S : jaS} {d e : jvA} {k n id K : Nat} (hR : jRt S d n) (hn : n < 24) (hw : jWn K d n) (hK : K ≤ 10) (hid : id < 64) (hfe : ∀ j, j < jz d (133 * n + 2) → S.1 67 0 (4 * id + j) = e (9 * id + 5 + j)) (hfl : ∀ j, j < jz d (133 * n + 2) → e (9 * id + 5 + j) = nI (jz e (9 * id + 5 + j)) ∧ jz e (9 * id + 5 + j) < K)
    (h : kk (jvWs d e id (133 * n) (jz d (133 * n + 1))) (jaU σ k S)) : jaDe D jy_Sc_writesOf [jcSc k, .inl (nI n), .inr (.inr (67, k, 0)), .inl (nI (4 * id))] (jaU σ k S) (jaKi kk) := by
  obtain ⟨D, rfl, hD⟩ := jaSuc hD
  obtain ⟨hk1, hd0, ⟨hd1, hd1'⟩, hd2, hda, hds⟩ := hw
  obtain ⟨r0, r1, r2, r3, r4⟩ := hR
  have hfe' : ∀ j, j < jz d (133 * n + 2) → (jaU σ k S k).1 67 0 (4 * id + j) = e (9 * id + 5 + j) := fun j hj => by
    rw [jaU_eq]
    exact hfe j hj
  apply js_Sc_writesOf
  refine jaFor (C := fun i => ∀ u6 u7, jc_Sc_writesOf_1 D kk k (nI n) k (nI (4 * id)) (jvWs d e id (133 * n) i) (nI i) u6 u7 (jaU σ k S)) (N := jz d (133 * n + 1)) ?_ (fun i hi ih => ?_) none none
  · intro u6 u7
    apply jb_Sc_writesOf_1
    simp (disch := first | omega | decide) only [jaU_eq, jaU_U, nI_add, pk_mul, jaIx_nI, vp_inT, true_and, and_true, ↓jaO0, ↓jaO1, nI_z, nI_z2, nI_z3, nI_z4, nI_z5, nI_lt', nI_le', nI_eq', jaUI_at, jaPt_eq, jaPt_ne, jaUI_o, jaUI_2, jaUL_at, jaUL_o, jaUL_1, jaB_z, jaB_1, ↓jaB_01, Classical.not_not, and_self, true_or, or_true, nI_11, Nat.reduceEqDiff, Nat.reduceAdd, Nat.reduceMul, Nat.add_zero, Nat.zero_add, Nat.mul_zero, not_true_eq_false, not_false_eq_true, false_implies, true_implies, r1]
    rw [hd1]
    simp (disch := first | omega | decide) only [jaU_eq, jaU_U, nI_add, pk_mul, jaIx_nI, vp_inT, true_and, and_true, ↓jaO0, ↓jaO1, nI_z, nI_z2, nI_z3, nI_z4, nI_z5, nI_lt', nI_le', nI_eq', jaUI_at, jaPt_eq, jaPt_ne, jaUI_o, jaUI_2, jaUL_at, jaUL_o, jaUL_1, jaB_z, jaB_1, ↓jaB_01, Classical.not_not, and_self, true_or, or_true, nI_11, Nat.reduceEqDiff, Nat.reduceAdd, Nat.reduceMul, Nat.add_zero, Nat.zero_add, Nat.mul_zero, not_true_eq_false, not_false_eq_true, false_implies, true_implies]
    refine ⟨fun _ => ?_, fun q => absurd (by omega) q⟩
    exact h
  · intro u6 u7
    obtain ⟨t0, t1, t3, t4, t5⟩ := hds i hi
    obtain ⟨c0, c1, c2, c3⟩ := r4 i hi
    apply jb_Sc_writesOf_1
    simp (disch := first | omega | decide) only [jaU_eq, jaU_U, nI_add, pk_mul, jaIx_nI, vp_inT, true_and, and_true, ↓jaO0, ↓jaO1, nI_z, nI_z2, nI_z3, nI_z4, nI_z5, nI_lt', nI_le', nI_eq', jaUI_at, jaPt_eq, jaPt_ne, jaUI_o, jaUI_2, jaUL_at, jaUL_o, jaUL_1, jaB_z, jaB_1, ↓jaB_01, Classical.not_not, and_self, true_or, or_true, nI_11, Nat.reduceEqDiff, Nat.reduceAdd, Nat.reduceMul, Nat.add_zero, Nat.zero_add, Nat.mul_zero, not_true_eq_false, not_false_eq_true, false_implies, true_implies, r1, jcIx, c1]
    rw [hd1]
    simp (disch := first | omega | decide) only [jaU_eq, jaU_U, nI_add, pk_mul, jaIx_nI, vp_inT, true_and, and_true, ↓jaO0, ↓jaO1, nI_z, nI_z2, nI_z3, nI_z4, nI_z5, nI_lt', nI_le', nI_eq', jaUI_at, jaPt_eq, jaPt_ne, jaUI_o, jaUI_2, jaUL_at, jaUL_o, jaUL_1, jaB_z, jaB_1, ↓jaB_01, Classical.not_not, and_self, true_or, or_true, nI_11, Nat.reduceEqDiff, Nat.reduceAdd, Nat.reduceMul, Nat.add_zero, Nat.zero_add, Nat.mul_zero, not_true_eq_false, not_false_eq_true, false_implies, true_implies]
    refine ⟨fun q => absurd q (by omega), fun _ => ?_⟩
    refine sp_Sc_keyOf_r (by omega) (Or.inl rfl) hid t1 hd2.2 hK hfe' ?_
    obtain ⟨z, hz, hz2⟩ := jvKey_n t1 hfl hd2.2
    have hst : jvWs d e id (133 * n) (i + 1) = jaIf1 (d (133 * n + 7 + 21 * i) = 0) (jvWs d e id (133 * n) i ||| jaMk (jvKey d e id (133 * n + 7 + 21 * i + 1))) (jvWs d e id (133 * n) i) := rfl
    rw [hst] at ih
    rw [hz2] at ih ⊢
    simp (disch := first | omega | decide) only [jaU_eq, jaU_U, nI_add, pk_mul, jaIx_nI, vp_inT, true_and, and_true, ↓jaO0, ↓jaO1, nI_z, nI_z2, nI_z3, nI_z4, nI_z5, nI_lt', nI_le', nI_eq', jaUI_at, jaPt_eq, jaPt_ne, jaUI_o, jaUI_2, jaUL_at, jaUL_o, jaUL_1, jaB_z, jaB_1, ↓jaB_01, Classical.not_not, and_self, true_or, or_true, nI_11, Nat.reduceEqDiff, Nat.reduceAdd, Nat.reduceMul, Nat.add_zero, Nat.zero_add, Nat.mul_zero, not_true_eq_false, not_false_eq_true, false_implies, true_implies, c0]
    rcases t0 with t0 | t0
    · rw [jaIf1_t (by rw [t0]; decide)] at ih
      rw [t0, jaIf1_f (by decide)]
      simp (disch := first | omega | decide) only [jaU_eq, jaU_U, nI_add, pk_mul, jaIx_nI, vp_inT, true_and, and_true, ↓jaO0, ↓jaO1, nI_z, nI_z2, nI_z3, nI_z4, nI_z5, nI_lt', nI_le', nI_eq', jaUI_at, jaPt_eq, jaPt_ne, jaUI_o, jaUI_2, jaUL_at, jaUL_o, jaUL_1, jaB_z, jaB_1, ↓jaB_01, Classical.not_not, and_self, true_or, or_true, nI_11, Nat.reduceEqDiff, Nat.reduceAdd, Nat.reduceMul, Nat.add_zero, Nat.zero_add, Nat.mul_zero, not_true_eq_false, not_false_eq_true, false_implies, true_implies]
      exact ih _ _
    · rw [jaIf1_f (by rw [t0]; decide)] at ih
      rw [t0, jaIf1_t rfl, t3.1]
      simp (disch := first | omega | decide) only [jaU_eq, jaU_U, nI_add, pk_mul, jaIx_nI, vp_inT, true_and, and_true, ↓jaO0, ↓jaO1, nI_z, nI_z2, nI_z3, nI_z4, nI_z5, nI_lt', nI_le', nI_eq', jaUI_at, jaPt_eq, jaPt_ne, jaUI_o, jaUI_2, jaUL_at, jaUL_o, jaUL_1, jaB_z, jaB_1, ↓jaB_01, Classical.not_not, and_self, true_or, or_true, nI_11, Nat.reduceEqDiff, Nat.reduceAdd, Nat.reduceMul, Nat.add_zero, Nat.zero_add, Nat.mul_zero, not_true_eq_false, not_false_eq_true, false_implies, true_implies]
      refine ⟨fun _ => ih _ _, fun q => absurd q (by omega)⟩
end
