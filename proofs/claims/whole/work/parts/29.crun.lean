section
/-! the class: what an entry uses, and how it goes -/
abbrev jcSt (k : Nat) : jaV := .inr (.inr (40, k, 0))
abbrev jcSc (k : Nat) : jaV := .inr (.inr (54, k, 0))
theorem jcPl_lt {K a : Nat} {d : jvA} {q : Nat} (hf : jWf K a d q) (ha : a ≤ 4) (hK : K ≤ 10) : jcRef d q < 3000 := by
  obtain ⟨f1, f2, f3 | ⟨f3, f4⟩⟩ := hf
  · rw [jcRef, f3, jaIf1_f (by decide)]
    omega
  · rw [jcRef, f3, jaIf1_t (nI_pos' (by omega))]
    omega
/-- a term's key -/
theorem sp_Sc_keyOf_t {D : Nat} (hD : 1 ≤ D) {kk : Int32 → jaT → Prop} {σ : jaT} {k id u K a : Nat} {d e : jvA} {x : Int32} (hx : x = nI (jcPl d u) ∨ x = (-1 : Int32) - nI (jcPl d u)) (hid : id < 64) (hu : jWu K a d u) (ha : a ≤ 4) (hK : K ≤ 10) (hfe : ∀ j, j < a → (σ k).1 67 0 (4 * id + j) = e (9 * id + 5 + j))
    (h0 : d u = nI 0 → jcPl d u < 1000 → kk (-1) σ) (h1 : d u = nI 1 → kk (jvKey d e id (u + 1)) σ) :
    jaDe D jy_Sc_keyOf [.inl x, .inr (.inr (67, k, 0)), .inl (nI (4 * id))] σ (jaKi kk) := by
  unfold jcPl at hx h0
  rcases hu.1 with ⟨z1, z2, z3⟩ | ⟨z1, z2⟩
  · rw [jaIf1_t (by rw [z1]; decide)] at hx h0
    exact sp_Sc_keyOf hD hx (by omega) (by omega) (fun _ => h0 z1 z3) (fun q => absurd q (by omega)) (fun q => absurd q (by omega))
  · rw [jaIf1_f (by rw [z1]; decide)] at hx
    exact sp_Sc_keyOf_r hD hx hid z2 ha hK hfe (h1 z1)
theorem jcTm_or (d : jvA) (u : Nat) : jcTm d u = nI (jcPl d u) ∨ jcTm d u = (-1 : Int32) - nI (jcPl d u) := by
  unfold jcTm jaIf1
  split
  · exact Or.inr rfl
  · exact Or.inl rfl
theorem jcIx (n i : Nat) : (n * 6 + i) * 7 = 42 * n + 7 * i := by omega
set_option maxHeartbeats 1000000 in
theorem sp_Sc_writesOf {D : Nat} (hD : 2 ≤ D) {kk : Int32 → jaT → Prop} {σ : jaT} {S : jaS} {d e : jvA} {k n id K : Nat} (hR : jRt S d n) (hn : n < 24) (hw : jWn K d n) (hK : K ≤ 10) (hid : id < 64) (hfe : ∀ j, j < jz d (133 * n + 2) → S.1 67 0 (4 * id + j) = e (9 * id + 5 + j)) (hfl : ∀ j, j < jz d (133 * n + 2) → e (9 * id + 5 + j) = nI (jz e (9 * id + 5 + j)) ∧ jz e (9 * id + 5 + j) < K)
    (h : kk (jvWs d e id (133 * n) (jz d (133 * n + 1))) (jaU σ k S)) : jaDe D jy_Sc_writesOf [jcSc k, .inl (nI n), .inr (.inr (67, k, 0)), .inl (nI (4 * id))] (jaU σ k S) (jaKi kk) := by
  obtain ⟨D, rfl, hD⟩ := jaSuc hD
  obtain ⟨hk1, hd0, ⟨hd1, hd1'⟩, hd2, hda, hds⟩ := hw
  obtain ⟨r0, r1, r2, r3, r4⟩ := hR
  apply js_Sc_writesOf
  refine jaFor (C := fun i => ∀ u6 u7, jc_Sc_writesOf_1 D kk k (nI n) k (nI (4 * id)) (jvWs d e id (133 * n) i) (nI i) u6 u7 (jaU σ k S)) (N := jz d (133 * n + 1)) ?_ (fun i hi ih => ?_) none none
  · intro u6 u7
    apply jb_Sc_writesOf_1
    simp (disch := first | omega | decide) only [jaU_eq, jaU_U, nI_add, pk_mul, jaIx_nI, vp_inT, true_and, and_true, ↓jaO0, ↓jaO1, nI_z, nI_z2, nI_z3, nI_z4, nI_z5, nI_lt', nI_le', nI_eq', jaUI_at, jaPt_eq, jaPt_ne, jaUI_o, jaUI_2, jaUL_at, jaUL_o, jaUL_1, jaB_z, jaB_1, ↓jaB_01, Classical.not_not, and_self, true_or, or_true, nI_11, Nat.reduceEqDiff, Nat.reduceAdd, Nat.reduceMul, Nat.add_zero, Nat.zero_add, Nat.mul_zero, not_true_eq_false, not_false_eq_true, false_implies, true_implies, r1]
    rw [hd1]
    simp (disch := first | omega | decide) only [jaU_eq, jaU_U, nI_add, pk_mul, jaIx_nI, vp_inT, true_and, and_true, ↓jaO0, ↓jaO1, nI_z, nI_z2, nI_z3, nI_z4, nI_z5, nI_lt', nI_le', nI_eq', jaUI_at, jaPt_eq, jaPt_ne, jaUI_o, jaUI_2, jaUL_at, jaUL_o, jaUL_1, jaB_z, jaB_1, ↓jaB_01, Classical.not_not, and_self, true_or, or_true, nI_11, Nat.reduceEqDiff, Nat.reduceAdd, Nat.reduceMul, Nat.add_zero, Nat.zero_add, Nat.mul_zero, not_true_eq_false, not_false_eq_true, false_implies, true_implies]
    refine ⟨fun _ => ?_, fun q => absurd (by omega) q⟩
    exact h
  · intro u6 u7
    obtain ⟨t0, t1, t3, t4, t5⟩ := hds i hi
    obtain ⟨c0, c1, c2, c3⟩ := r4 i hi
    apply jb_Sc_writesOf_1
    simp (disch := first | omega | decide) only [jaU_eq, jaU_U, nI_add, pk_mul, jaIx_nI, vp_inT, true_and, and_true, ↓jaO0, ↓jaO1, nI_z, nI_z2, nI_z3, nI_z4, nI_z5, nI_lt', nI_le', nI_eq', jaUI_at, jaPt_eq, jaPt_ne, jaUI_o, jaUI_2, jaUL_at, jaUL_o, jaUL_1, jaB_z, jaB_1, ↓jaB_01, Classical.not_not, and_self, true_or, or_true, nI_11, Nat.reduceEqDiff, Nat.reduceAdd, Nat.reduceMul, Nat.add_zero, Nat.zero_add, Nat.mul_zero, not_true_eq_false, not_false_eq_true, false_implies, true_implies, r1, jcIx, c1]
    rw [hd1]
    simp (disch := first | omega | decide) only [jaU_eq, jaU_U, nI_add, pk_mul, jaIx_nI, vp_inT, true_and, and_true, ↓jaO0, ↓jaO1, nI_z, nI_z2, nI_z3, nI_z4, nI_z5, nI_lt', nI_le', nI_eq', jaUI_at, jaPt_eq, jaPt_ne, jaUI_o, jaUI_2, jaUL_at, jaUL_o, jaUL_1, jaB_z, jaB_1, ↓jaB_01, Classical.not_not, and_self, true_or, or_true, nI_11, Nat.reduceEqDiff, Nat.reduceAdd, Nat.reduceMul, Nat.add_zero, Nat.zero_add, Nat.mul_zero, not_true_eq_false, not_false_eq_true, false_implies, true_implies]
    refine ⟨fun q => absurd q (by omega), fun _ => ?_⟩
    refine sp_Sc_keyOf_r (by omega) (Or.inl rfl) hid t1 hd2.2 hK (fun j hj => by simp (disch := first | omega | decide) only [jaU_eq, jaU_U, nI_add, pk_mul, jaIx_nI, vp_inT, true_and, and_true, ↓jaO0, ↓jaO1, nI_z, nI_z2, nI_z3, nI_z4, nI_z5, nI_lt', nI_le', nI_eq', jaUI_at, jaPt_eq, jaPt_ne, jaUI_o, jaUI_2, jaUL_at, jaUL_o, jaUL_1, jaB_z, jaB_1, ↓jaB_01, Classical.not_not, and_self, true_or, or_true, nI_11, Nat.reduceEqDiff, Nat.reduceAdd, Nat.reduceMul, Nat.add_zero, Nat.zero_add, Nat.mul_zero, not_true_eq_false, not_false_eq_true, false_implies, true_implies]
                                                                              exact hfe j hj) ?_
    obtain ⟨z, hz, hz2⟩ := jvKey_n t1 hfl hd2.2
    have hst : jvWs d e id (133 * n) (i + 1) = jaIf1 (d (133 * n + 7 + 21 * i) = 0) (jvWs d e id (133 * n) i ||| jaMk (jvKey d e id (133 * n + 7 + 21 * i + 1))) (jvWs d e id (133 * n) i) := rfl
    rw [hst] at ih
    rw [hz2] at ih ⊢
    simp (disch := first | omega | decide) only [jaU_eq, jaU_U, nI_add, pk_mul, jaIx_nI, vp_inT, true_and, and_true, ↓jaO0, ↓jaO1, nI_z, nI_z2, nI_z3, nI_z4, nI_z5, nI_lt', nI_le', nI_eq', jaUI_at, jaPt_eq, jaPt_ne, jaUI_o, jaUI_2, jaUL_at, jaUL_o, jaUL_1, jaB_z, jaB_1, ↓jaB_01, Classical.not_not, and_self, true_or, or_true, nI_11, Nat.reduceEqDiff, Nat.reduceAdd, Nat.reduceMul, Nat.add_zero, Nat.zero_add, Nat.mul_zero, not_true_eq_false, not_false_eq_true, false_implies, true_implies, c0]
    rcases t0 with t0 | t0
    · rw [jaIf1_t (by rw [t0]; decide)] at ih
      rw [t0, jaIf1_f (by decide)]
      simp (disch := first | omega | decide) only [jaU_eq, jaU_U, nI_add, pk_mul, jaIx_nI, vp_inT, true_and, and_true, ↓jaO0, ↓jaO1, nI_z, nI_z2, nI_z3, nI_z4, nI_z5, nI_lt', nI_le', nI_eq', jaUI_at, jaPt_eq, jaPt_ne, jaUI_o, jaUI_2, jaUL_at, jaUL_o, jaUL_1, jaB_z, jaB_1, ↓jaB_01, Classical.not_not, and_self, true_or, or_true, nI_11, Nat.reduceEqDiff, Nat.reduceAdd, Nat.reduceMul, Nat.add_zero, Nat.zero_add, Nat.mul_zero, not_true_eq_false, not_false_eq_true, false_implies, true_implies]
      exact ih _ _
    · rw [jaIf1_f (by rw [t0]; decide)] at ih
      rw [t0, jaIf1_t rfl, t3.1]
      simp (disch := first | omega | decide) only [jaU_eq, jaU_U, nI_add, pk_mul, jaIx_nI, vp_inT, true_and, and_true, ↓jaO0, ↓jaO1, nI_z, nI_z2, nI_z3, nI_z4, nI_z5, nI_lt', nI_le', nI_eq', jaUI_at, jaPt_eq, jaPt_ne, jaUI_o, jaUI_2, jaUL_at, jaUL_o, jaUL_1, jaB_z, jaB_1, ↓jaB_01, Classical.not_not, and_self, true_or, or_true, nI_11, Nat.reduceEqDiff, Nat.reduceAdd, Nat.reduceMul, Nat.add_zero, Nat.zero_add, Nat.mul_zero, not_true_eq_false, not_false_eq_true, false_implies, true_implies]
      refine ⟨fun _ => ih _ _, fun q => absurd q (by omega)⟩
set_option maxHeartbeats 2000000 in
theorem sp_Sc_readsOf {D : Nat} (hD : 2 ≤ D) {kk : Int32 → jaT → Prop} {σ : jaT} {S : jaS} {d e : jvA} {k n id K : Nat} (hR : jRt S d n) (hn : n < 24) (hw : jWn K d n) (hK : K ≤ 10) (hid : id < 64) (hfe : ∀ j, j < jz d (133 * n + 2) → S.1 67 0 (4 * id + j) = e (9 * id + 5 + j)) (hfl : ∀ j, j < jz d (133 * n + 2) → e (9 * id + 5 + j) = nI (jz e (9 * id + 5 + j)) ∧ jz e (9 * id + 5 + j) < K)
    (h : kk (jvRs d e id (133 * n) (jz d (133 * n + 1))) (jaU σ k S)) : jaDe D jy_Sc_readsOf [jcSc k, .inl (nI n), .inr (.inr (67, k, 0)), .inl (nI (4 * id))] (jaU σ k S) (jaKi kk) := by
  obtain ⟨D, rfl, hD⟩ := jaSuc hD
  obtain ⟨hk1, hd0, ⟨hd1, hd1'⟩, ⟨hd2, hd2'⟩, hda, hds⟩ := hw
  obtain ⟨r0, r1, r2, r3, r4⟩ := hR
  have hfe' : ∀ j, j < jz d (133 * n + 2) → (jaU σ k S k).1 67 0 (4 * id + j) = e (9 * id + 5 + j) := fun j hj => by
    rw [jaU_eq]
    exact hfe j hj
  apply js_Sc_readsOf
  refine jaFor (C := fun j => jc_Sc_readsOf_1 D kk k (nI n) k (nI (4 * id)) (jvRa d (133 * n) j) (nI j) (jaU σ k S)) (N := jz d (133 * n + 2)) ?_ (fun j hj ih => ?_)
  · apply jb_Sc_readsOf_1
    simp (disch := first | omega | decide) only [jaU_eq, jaU_U, nI_add, pk_mul, jaIx_nI, vp_inT, true_and, and_true, ↓jaO0, ↓jaO1, nI_z, nI_z2, nI_z3, nI_z4, nI_z5, nI_lt', nI_le', nI_eq', jaUI_at, jaPt_eq, jaPt_ne, jaUI_o, jaUI_2, jaUL_at, jaUL_o, jaUL_1, jaB_z, jaB_1, ↓jaB_01, Classical.not_not, and_self, true_or, or_true, nI_11, Nat.reduceEqDiff, Nat.reduceAdd, Nat.reduceMul, Nat.add_zero, Nat.zero_add, Nat.mul_zero, not_true_eq_false, not_false_eq_true, false_implies, true_implies, r2]
    rw [hd2]
    simp (disch := first | omega | decide) only [jaU_eq, jaU_U, nI_add, pk_mul, jaIx_nI, vp_inT, true_and, and_true, ↓jaO0, ↓jaO1, nI_z, nI_z2, nI_z3, nI_z4, nI_z5, nI_lt', nI_le', nI_eq', jaUI_at, jaPt_eq, jaPt_ne, jaUI_o, jaUI_2, jaUL_at, jaUL_o, jaUL_1, jaB_z, jaB_1, ↓jaB_01, Classical.not_not, and_self, true_or, or_true, nI_11, Nat.reduceEqDiff, Nat.reduceAdd, Nat.reduceMul, Nat.add_zero, Nat.zero_add, Nat.mul_zero, not_true_eq_false, not_false_eq_true, false_implies, true_implies]
    refine ⟨fun _ => ?_, fun q => absurd (by omega) q⟩
    refine jaFor (C := fun i => ∀ u6 u7 u8, jc_Sc_readsOf_3 D kk k (nI n) k (nI (4 * id)) (jvRs d e id (133 * n) i) (nI i) u6 u7 u8 (jaU σ k S)) (N := jz d (133 * n + 1)) ?_ (fun i hi ih => ?_) none none none
    · intro u6 u7 u8
      apply jb_Sc_readsOf_3
      simp (disch := first | omega | decide) only [jaU_eq, jaU_U, nI_add, pk_mul, jaIx_nI, vp_inT, true_and, and_true, ↓jaO0, ↓jaO1, nI_z, nI_z2, nI_z3, nI_z4, nI_z5, nI_lt', nI_le', nI_eq', jaUI_at, jaPt_eq, jaPt_ne, jaUI_o, jaUI_2, jaUL_at, jaUL_o, jaUL_1, jaB_z, jaB_1, ↓jaB_01, Classical.not_not, and_self, true_or, or_true, nI_11, Nat.reduceEqDiff, Nat.reduceAdd, Nat.reduceMul, Nat.add_zero, Nat.zero_add, Nat.mul_zero, not_true_eq_false, not_false_eq_true, false_implies, true_implies, r1]
      rw [hd1]
      simp (disch := first | omega | decide) only [jaU_eq, jaU_U, nI_add, pk_mul, jaIx_nI, vp_inT, true_and, and_true, ↓jaO0, ↓jaO1, nI_z, nI_z2, nI_z3, nI_z4, nI_z5, nI_lt', nI_le', nI_eq', jaUI_at, jaPt_eq, jaPt_ne, jaUI_o, jaUI_2, jaUL_at, jaUL_o, jaUL_1, jaB_z, jaB_1, ↓jaB_01, Classical.not_not, and_self, true_or, or_true, nI_11, Nat.reduceEqDiff, Nat.reduceAdd, Nat.reduceMul, Nat.add_zero, Nat.zero_add, Nat.mul_zero, not_true_eq_false, not_false_eq_true, false_implies, true_implies]
      refine ⟨fun _ => ?_, fun q => absurd (by omega) q⟩
      exact h
    · intro u6 u7 u8
      obtain ⟨t0, t1, t3, ⟨t4, t4'⟩, t5⟩ := hds i hi
      obtain ⟨c0, c1, c2, c3⟩ := r4 i hi
      obtain ⟨z, hz, hz2⟩ := jvKey_n t1 hfl hd2'
      have hst : jvRs d e id (133 * n) (i + 1) = jvRt d e id (133 * n + 7 + 21 * i) (jaIf1 (d (133 * n + 7 + 21 * i) = 0) (jvRs d e id (133 * n) i) (jvRs d e id (133 * n) i ||| jaMk (jvKey d e id (133 * n + 7 + 21 * i + 1)))) (jz d (133 * n + 7 + 21 * i + 4)) := rfl
      rw [hst, hz2] at ih
      have L5 : ∀ r x7, r = jaIf1 (d (133 * n + 7 + 21 * i) = 0) (jvRs d e id (133 * n) i) (jvRs d e id (133 * n) i ||| jaMk (nI z)) → jc_Sc_readsOf_5 D kk k (nI n) k (nI (4 * id)) r (nI i) (nI (42 * n + 7 * i)) x7 (nI 0) (jaU σ k S) := by
        intro r x7 hr
        rw [← hr] at ih
        refine jaFor (C := fun x => ∀ x7, jc_Sc_readsOf_5 D kk k (nI n) k (nI (4 * id)) (jvRt d e id (133 * n + 7 + 21 * i) r x) (nI i) (nI (42 * n + 7 * i)) x7 (nI x) (jaU σ k S)) (N := jz d (133 * n + 7 + 21 * i + 4)) ?_ (fun x hx ih5 => ?_) x7
        · intro x7
          apply jb_Sc_readsOf_5
          simp (disch := first | omega | decide) only [jaU_eq, jaU_U, nI_add, pk_mul, jaIx_nI, vp_inT, true_and, and_true, ↓jaO0, ↓jaO1, nI_z, nI_z2, nI_z3, nI_z4, nI_z5, nI_lt', nI_le', nI_eq', jaUI_at, jaPt_eq, jaPt_ne, jaUI_o, jaUI_2, jaUL_at, jaUL_o, jaUL_1, jaB_z, jaB_1, ↓jaB_01, Classical.not_not, and_self, true_or, or_true, nI_11, Nat.reduceEqDiff, Nat.reduceAdd, Nat.reduceMul, Nat.add_zero, Nat.zero_add, Nat.mul_zero, not_true_eq_false, not_false_eq_true, false_implies, true_implies, c2]
          rw [t4]
          simp (disch := first | omega | decide) only [jaU_eq, jaU_U, nI_add, pk_mul, jaIx_nI, vp_inT, true_and, and_true, ↓jaO0, ↓jaO1, nI_z, nI_z2, nI_z3, nI_z4, nI_z5, nI_lt', nI_le', nI_eq', jaUI_at, jaPt_eq, jaPt_ne, jaUI_o, jaUI_2, jaUL_at, jaUL_o, jaUL_1, jaB_z, jaB_1, ↓jaB_01, Classical.not_not, and_self, true_or, or_true, nI_11, Nat.reduceEqDiff, Nat.reduceAdd, Nat.reduceMul, Nat.add_zero, Nat.zero_add, Nat.mul_zero, not_true_eq_false, not_false_eq_true, false_implies, true_implies]
          refine ⟨fun _ => ?_, fun q => absurd (by omega) q⟩
          exact ih _ _ _
        · intro x7
          apply jb_Sc_readsOf_5
          simp (disch := first | omega | decide) only [jaU_eq, jaU_U, nI_add, pk_mul, jaIx_nI, vp_inT, true_and, and_true, ↓jaO0, ↓jaO1, nI_z, nI_z2, nI_z3, nI_z4, nI_z5, nI_lt', nI_le', nI_eq', jaUI_at, jaPt_eq, jaPt_ne, jaUI_o, jaUI_2, jaUL_at, jaUL_o, jaUL_1, jaB_z, jaB_1, ↓jaB_01, Classical.not_not, and_self, true_or, or_true, nI_11, Nat.reduceEqDiff, Nat.reduceAdd, Nat.reduceMul, Nat.add_zero, Nat.zero_add, Nat.mul_zero, not_true_eq_false, not_false_eq_true, false_implies, true_implies, c2, c3]
          rw [t4, c3 x hx]
          simp (disch := first | omega | decide) only [jaU_eq, jaU_U, nI_add, pk_mul, jaIx_nI, vp_inT, true_and, and_true, ↓jaO0, ↓jaO1, nI_z, nI_z2, nI_z3, nI_z4, nI_z5, nI_lt', nI_le', nI_eq', jaUI_at, jaPt_eq, jaPt_ne, jaUI_o, jaUI_2, jaUL_at, jaUL_o, jaUL_1, jaB_z, jaB_1, ↓jaB_01, Classical.not_not, and_self, true_or, or_true, nI_11, Nat.reduceEqDiff, Nat.reduceAdd, Nat.reduceMul, Nat.add_zero, Nat.zero_add, Nat.mul_zero, not_true_eq_false, not_false_eq_true, false_implies, true_implies]
          refine ⟨fun q => absurd q (by omega), fun _ => ?_⟩
          have hst2 : jvRt d e id (133 * n + 7 + 21 * i) r (x + 1) = jaIf1 (d (133 * n + 7 + 21 * i + 5 + 4 * x) = nI 1) (jvRt d e id (133 * n + 7 + 21 * i) r x ||| jaMk (jvKey d e id (133 * n + 7 + 21 * i + 6 + 4 * x))) (jvRt d e id (133 * n + 7 + 21 * i) r x) := rfl
          rw [hst2] at ih5
          refine sp_Sc_keyOf_t (by omega) (jcTm_or _ _) hid (t5 x hx) hd2' hK hfe' (fun q1 q2 => ?_) (fun q1 => ?_)
          · rw [jaIf1_f (by rw [q1]; decide)] at ih5
            exact ⟨fun _ => ih5 _, fun q => absurd (by decide) q⟩
          · rw [jaIf1_t q1] at ih5
            have hf2 : jWf K (jz d (133 * n + 2)) d (133 * n + 7 + 21 * i + 5 + 4 * x + 1) := by
              rcases (t5 x hx).1 with z | z
              · rw [q1] at z
                exact absurd z.1 (by decide)
              · exact z.2
            obtain ⟨y, hy, hy2⟩ := jvKey_n hf2 hfl hd2'
            rw [show 133 * n + 7 + 21 * i + 6 + 4 * x = 133 * n + 7 + 21 * i + 5 + 4 * x + 1 by omega, hy2] at ih5
            rw [hy2]
            simp (disch := first | omega | decide) only [jaU_eq, jaU_U, nI_add, pk_mul, jaIx_nI, vp_inT, true_and, and_true, ↓jaO0, ↓jaO1, nI_z, nI_z2, nI_z3, nI_z4, nI_z5, nI_lt', nI_le', nI_eq', jaUI_at, jaPt_eq, jaPt_ne, jaUI_o, jaUI_2, jaUL_at, jaUL_o, jaUL_1, jaB_z, jaB_1, ↓jaB_01, Classical.not_not, and_self, true_or, or_true, nI_11, Nat.reduceEqDiff, Nat.reduceAdd, Nat.reduceMul, Nat.add_zero, Nat.zero_add, Nat.mul_zero, not_true_eq_false, not_false_eq_true, false_implies, true_implies]
            exact ih5 _
      apply jb_Sc_readsOf_3
      simp (disch := first | omega | decide) only [jaU_eq, jaU_U, nI_add, pk_mul, jaIx_nI, vp_inT, true_and, and_true, ↓jaO0, ↓jaO1, nI_z, nI_z2, nI_z3, nI_z4, nI_z5, nI_lt', nI_le', nI_eq', jaUI_at, jaPt_eq, jaPt_ne, jaUI_o, jaUI_2, jaUL_at, jaUL_o, jaUL_1, jaB_z, jaB_1, ↓jaB_01, Classical.not_not, and_self, true_or, or_true, nI_11, Nat.reduceEqDiff, Nat.reduceAdd, Nat.reduceMul, Nat.add_zero, Nat.zero_add, Nat.mul_zero, not_true_eq_false, not_false_eq_true, false_implies, true_implies, r1, jcIx, c1]
      rw [hd1]
      simp (disch := first | omega | decide) only [jaU_eq, jaU_U, nI_add, pk_mul, jaIx_nI, vp_inT, true_and, and_true, ↓jaO0, ↓jaO1, nI_z, nI_z2, nI_z3, nI_z4, nI_z5, nI_lt', nI_le', nI_eq', jaUI_at, jaPt_eq, jaPt_ne, jaUI_o, jaUI_2, jaUL_at, jaUL_o, jaUL_1, jaB_z, jaB_1, ↓jaB_01, Classical.not_not, and_self, true_or, or_true, nI_11, Nat.reduceEqDiff, Nat.reduceAdd, Nat.reduceMul, Nat.add_zero, Nat.zero_add, Nat.mul_zero, not_true_eq_false, not_false_eq_true, false_implies, true_implies]
      refine ⟨fun q => absurd q (by omega), fun _ => ?_⟩
      refine sp_Sc_keyOf_r (by omega) (Or.inl rfl) hid t1 hd2' hK hfe' ?_
      rw [hz2]
      simp (disch := first | omega | decide) only [jaU_eq, jaU_U, nI_add, pk_mul, jaIx_nI, vp_inT, true_and, and_true, ↓jaO0, ↓jaO1, nI_z, nI_z2, nI_z3, nI_z4, nI_z5, nI_lt', nI_le', nI_eq', jaUI_at, jaPt_eq, jaPt_ne, jaUI_o, jaUI_2, jaUL_at, jaUL_o, jaUL_1, jaB_z, jaB_1, ↓jaB_01, Classical.not_not, and_self, true_or, or_true, nI_11, Nat.reduceEqDiff, Nat.reduceAdd, Nat.reduceMul, Nat.add_zero, Nat.zero_add, Nat.mul_zero, not_true_eq_false, not_false_eq_true, false_implies, true_implies, c0]
      rcases t0 with t0 | t0
      · have z1 := L5 _ (nI z) rfl
        rw [jaIf1_t (by rw [t0]; decide)] at z1
        rw [t0, jaIf1_f (by decide)]
        simp (disch := first | omega | decide) only [jaU_eq, jaU_U, nI_add, pk_mul, jaIx_nI, vp_inT, true_and, and_true, ↓jaO0, ↓jaO1, nI_z, nI_z2, nI_z3, nI_z4, nI_z5, nI_lt', nI_le', nI_eq', jaUI_at, jaPt_eq, jaPt_ne, jaUI_o, jaUI_2, jaUL_at, jaUL_o, jaUL_1, jaB_z, jaB_1, ↓jaB_01, Classical.not_not, and_self, true_or, or_true, nI_11, Nat.reduceEqDiff, Nat.reduceAdd, Nat.reduceMul, Nat.add_zero, Nat.zero_add, Nat.mul_zero, not_true_eq_false, not_false_eq_true, false_implies, true_implies]
        exact z1
      · have z1 := L5 _ (nI z) rfl
        rw [jaIf1_f (by rw [t0]; decide)] at z1
        rw [t0, jaIf1_t rfl, t3.1]
        simp (disch := first | omega | decide) only [jaU_eq, jaU_U, nI_add, pk_mul, jaIx_nI, vp_inT, true_and, and_true, ↓jaO0, ↓jaO1, nI_z, nI_z2, nI_z3, nI_z4, nI_z5, nI_lt', nI_le', nI_eq', jaUI_at, jaPt_eq, jaPt_ne, jaUI_o, jaUI_2, jaUL_at, jaUL_o, jaUL_1, jaB_z, jaB_1, ↓jaB_01, Classical.not_not, and_self, true_or, or_true, nI_11, Nat.reduceEqDiff, Nat.reduceAdd, Nat.reduceMul, Nat.add_zero, Nat.zero_add, Nat.mul_zero, not_true_eq_false, not_false_eq_true, false_implies, true_implies]
        refine ⟨fun q => absurd q (by omega), fun _ => z1⟩
  · obtain ⟨a1, a2⟩ := hda j hj
    have e1 := r3 j hj
    apply jb_Sc_readsOf_1
    rw [show n * 4 = 4 * n by omega] at *
    simp (disch := first | omega | decide) only [jaU_eq, jaU_U, nI_add, pk_mul, jaIx_nI, vp_inT, true_and, and_true, ↓jaO0, ↓jaO1, nI_z, nI_z2, nI_z3, nI_z4, nI_z5, nI_lt', nI_le', nI_eq', jaUI_at, jaPt_eq, jaPt_ne, jaUI_o, jaUI_2, jaUL_at, jaUL_o, jaUL_1, jaB_z, jaB_1, ↓jaB_01, Classical.not_not, and_self, true_or, or_true, nI_11, Nat.reduceEqDiff, Nat.reduceAdd, Nat.reduceMul, Nat.add_zero, Nat.zero_add, Nat.mul_zero, not_true_eq_false, not_false_eq_true, false_implies, true_implies, r2]
    rw [hd2]
    simp (disch := first | omega | decide) only [jaU_eq, jaU_U, nI_add, pk_mul, jaIx_nI, vp_inT, true_and, and_true, ↓jaO0, ↓jaO1, nI_z, nI_z2, nI_z3, nI_z4, nI_z5, nI_lt', nI_le', nI_eq', jaUI_at, jaPt_eq, jaPt_ne, jaUI_o, jaUI_2, jaUL_at, jaUL_o, jaUL_1, jaB_z, jaB_1, ↓jaB_01, Classical.not_not, and_self, true_or, or_true, nI_11, Nat.reduceEqDiff, Nat.reduceAdd, Nat.reduceMul, Nat.add_zero, Nat.zero_add, Nat.mul_zero, not_true_eq_false, not_false_eq_true, false_implies, true_implies]
    refine ⟨fun q => absurd q (by omega), fun _ => ?_⟩
    rw [show n * 4 + j = 4 * n + j by omega, e1]
    exact ih
theorem sp_JM_floorMod {D : Nat} (hD : 1 ≤ D) {kk : Int32 → jaT → Prop} {σ : jaT} {x : Int32} {K : Nat} (h1 : 1 ≤ K) (h2 : K ≤ 10) (h : kk (jvMod x (nI K)) σ) : jaDe D jy_JM_floorMod [.inl x, .inl (nI K)] σ (jaKi kk) := by
  obtain ⟨D, rfl, hD⟩ := jaSuc hD
  have hK : (nI K).toInt = (K : Int) := nI_toInt (by omega)
  have hr := rem_toInt x (nI K)
  rw [hK] at hr
  have hb := tmod_bounds (a := x.toInt) (M := (K : Int)) (by omega)
  have hs : (0 ≤ x ^^^ nI K) ↔ 0 ≤ x := by
    have key : ∀ y : Int32, 0 ≤ y ↔ bt y 31 = false := fun y => by
      rw [Int32.le_iff_toInt_le]
      show (0 : Int32).toBitVec.toInt ≤ y.toBitVec.toInt ↔ y.toBitVec.getLsbD 31 = false
      rw [show (0 : Int32).toBitVec.toInt = 0 from rfl, ← BitVec.msb_eq_false_iff_two_mul_lt] <;> sorry
    rw [key, key, b_xor]
    have : bt (nI K) 31 = false := (key _).mp (nI_pos' (by omega))
    rw [this, Bool.xor_false]
  apply js_JM_floorMod
  refine ⟨nI_ne0 h1 (by omega), fun q => ?_, fun q => ⟨fun q2 => ?_, fun q2 => ?_⟩⟩
  · sorry
  · sorry
  · sorry
end
