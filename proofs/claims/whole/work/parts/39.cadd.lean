section
/-! the class: transactions copied and put -/
theorem jRq_m {C C' d d' : jvA} {p p' t t' : Nat} (hC : ∀ j, j < 7 → C' (p' + j) = C (p + j)) (hd : ∀ j, j < 21 → d' (t' + j) = d (t + j)) (h4 : jz d (t + 4) ≤ 4) (h : jRq C d p t) : jRq C' d' p' t' := by
  have hz : ∀ j, j < 21 → jz d' (t' + j) = jz d (t + j) := fun j hj => congrArg jaIx (hd j hj)
  obtain ⟨c0, c1, c2, c3⟩ := h
  have e0 := hC 0 (by decide)
  have f0 := hd 0 (by decide)
  simp only [Nat.add_zero] at e0 f0
  have href : ∀ j, j < 19 → jcRef d' (t' + j) = jcRef d (t + j) := fun j hj => by
    have h1 := hd (j + 1) (by omega)
    have h2 := hz j (by omega)
    have h3 := hz (j + 1) (by omega)
    rw [← Nat.add_assoc, ← Nat.add_assoc] at h1 h3
    unfold jcRef
    rw [h1, h2, h3]
  unfold jRq
  rw [e0, hC 1 (by decide), hC 2 (by decide), f0, hd 3 (by decide), hd 4 (by decide), hz 4 (by decide), href 1 (by decide)]
  refine ⟨c0, c1, c2, fun x hx => ?_⟩
  have h5 := hC (3 + x) (by omega)
  have ha : ∀ j, j < 4 → d' (t' + 5 + 4 * x + j) = d (t + 5 + 4 * x + j) := fun j hj => by
    have := hd (5 + 4 * x + j) (by omega)
    rwa [show t' + (5 + 4 * x + j) = t' + 5 + 4 * x + j by omega, show t + (5 + 4 * x + j) = t + 5 + 4 * x + j by omega] at this
  have g0 := ha 0 (by decide)
  simp only [Nat.add_zero] at g0
  have g5 := href (5 + 4 * x + 1) (by omega)
  rw [show t' + (5 + 4 * x + 1) = t' + 5 + 4 * x + 1 by omega, show t + (5 + 4 * x + 1) = t + 5 + 4 * x + 1 by omega] at g5
  rw [← Nat.add_assoc, ← Nat.add_assoc] at h5
  rw [h5, c3 x hx]
  unfold jcTm jcPl
  rw [ha 3 (by decide), g0, show jz d' (t' + 5 + 4 * x + 1) = jz d (t + 5 + 4 * x + 1) from congrArg jaIx (ha 1 (by decide)), g5]
theorem jRt_m {S S' : jaS} {d d' : jvA} {n n' k : Nat} (hw : jWn k d n) (h55 : S'.1 55 0 n' = d' (133 * n')) (h56 : S'.1 56 0 n' = S.1 56 0 n) (h57 : S'.1 57 0 n' = S.1 57 0 n) (h58 : ∀ j, j < 4 → S'.1 58 0 (4 * n' + j) = S.1 58 0 (4 * n + j)) (h59 : ∀ j, j < 42 → S'.1 59 0 (42 * n' + j) = S.1 59 0 (42 * n + j))
    (hd : ∀ j, 1 ≤ j → j < 133 → d' (133 * n' + j) = d (133 * n + j)) (h : jRt S d n) : jRt S' d' n' := by
  obtain ⟨hk1, hd0, ⟨hd1, hd1'⟩, ⟨hd2, hd2'⟩, hda, hds⟩ := hw
  obtain ⟨r0, r1, r2, r3, r4⟩ := h
  have hz : ∀ j, 1 ≤ j → j < 133 → jz d' (133 * n' + j) = jz d (133 * n + j) := fun j h1 hj => congrArg jaIx (hd j h1 hj)
  refine ⟨h55, ?_, ?_, fun j hj => ?_, fun i hi => ?_⟩
  · rw [h56, r1, hd 1 (by decide) (by decide)]
  · rw [h57, r2, hd 2 (by decide) (by decide)]
  · rw [hz 2 (by decide) (by decide)] at hj
    rw [h58 j (by omega), r3 j hj, Nat.add_assoc, Nat.add_assoc]
    exact (hd (3 + j) (by omega) (by omega)).symm
  · rw [hz 1 (by decide) (by decide)] at hi
    refine jRq_m (fun j hj => ?_) (fun j hj => ?_) (hds i hi).2.2.2.1.2 (r4 i hi)
    · rw [Nat.add_assoc, Nat.add_assoc]
      exact h59 _ (by omega)
    · have := hd (7 + 21 * i + j) (by omega) (by omega)
      rwa [show 133 * n' + (7 + 21 * i + j) = 133 * n' + 7 + 21 * i + j by omega, show 133 * n + (7 + 21 * i + j) = 133 * n + 7 + 21 * i + j by omega] at this
set_option maxHeartbeats 1000000 in
theorem sp_Sc_copyOne_s {D : Nat} (hD : 1 ≤ D) {kk : jaT → Prop} {σ : jaT} {S : jaS} {k n m : Nat} (hne : n ≠ m) (hn : n < 24) (hm : m < 24) (h : ∀ S', jcF [55, 56, 57, 58, 59] S S' → S'.1 55 0 = jaPt (S.1 55 0) m (S.1 55 0 n) → S'.1 56 0 = jaPt (S.1 56 0) m (S.1 56 0 n) → S'.1 57 0 = jaPt (S.1 57 0) m (S.1 57 0 n) → S'.1 58 0 = jvCp (S.1 58 0) (4 * m) (S.1 58 0) (4 * n) 4 → S'.1 59 0 = jvCp (S.1 59 0) (42 * m) (S.1 59 0) (42 * n) 42 → kk (jaU σ k S')) :
    jaDe D jy_Sc_copyOne [jcSc k, jcSc k, .inl (nI n), .inl (nI m)] (jaU σ k S) (jaKv kk) := by
  obtain ⟨D, rfl, hD⟩ := jaSuc hD
  apply js_Sc_copyOne
  simp (disch := first | omega | decide) only [jaU_eq, jaU_U, nI_add, pk_mul, jaIx_nI, vp_inT, true_and, and_true, ↓jaO0, ↓jaO1, nI_z, nI_z2, nI_z3, nI_z4, nI_z5, nI_lt', nI_le', nI_eq', jaUI_at, jaPt_eq, jaPt_ne, jaUI_o, jaUI_2, jaUL_at, jaUL_o, jaUL_1, jaB_z, jaB_1, ↓jaB_01, Classical.not_not, and_self, true_or, or_true, nI_11, Nat.reduceEqDiff, Nat.reduceAdd, Nat.reduceMul, Nat.add_zero, Nat.zero_add, Nat.mul_zero, not_true_eq_false, not_false_eq_true, false_implies, true_implies, jaU_eq]
  have hm4 : ∀ x, m * 4 + x = 4 * m + x := fun x => by omega
  have hn4 : ∀ x, n * 4 + x = 4 * n + x := fun x => by omega
  have hm42 : ∀ x, m * 42 + x = 42 * m + x := fun x => by omega
  have hn42 : ∀ x, n * 42 + x = 42 * n + x := fun x => by omega
  refine jaFor (C := fun x => ∀ S', jcF [55, 56, 57, 58, 59] S S' → S'.1 55 0 = jaPt (S.1 55 0) m (S.1 55 0 n) → S'.1 56 0 = jaPt (S.1 56 0) m (S.1 56 0 n) → S'.1 57 0 = jaPt (S.1 57 0) m (S.1 57 0 n) → S'.1 58 0 = jvCp (S.1 58 0) (4 * m) (S.1 58 0) (4 * n) x → S'.1 59 0 = S.1 59 0 → jc_Sc_copyOne_1 D kk k k (nI n) (nI m) (nI x) (jaU σ k S')) (N := 4) ?_ (fun x hx ih => ?_) (jaUI (jaUI (jaUI S 55 0 m (S.1 55 0 n)) 56 0 m (S.1 56 0 n)) 57 0 m (S.1 57 0 n)) (((jcF.rfl.ui (by decide)).ui (by decide)).ui (by decide)) ?_ ?_ ?_ ?_ ?_
  · intro S' f a1 a2 a3 a4 a5
    apply jb_Sc_copyOne_1
    simp (disch := first | omega | decide) only [jaU_eq, jaU_U, nI_add, pk_mul, jaIx_nI, vp_inT, true_and, and_true, ↓jaO0, ↓jaO1, nI_z, nI_z2, nI_z3, nI_z4, nI_z5, nI_lt', nI_le', nI_eq', jaUI_at, jaPt_eq, jaPt_ne, jaUI_o, jaUI_2, jaUL_at, jaUL_o, jaUL_1, jaB_z, jaB_1, ↓jaB_01, Classical.not_not, and_self, true_or, or_true, nI_11, Nat.reduceEqDiff, Nat.reduceAdd, Nat.reduceMul, Nat.add_zero, Nat.zero_add, Nat.mul_zero, not_true_eq_false, not_false_eq_true, false_implies, true_implies]
    refine ⟨fun _ => ?_, fun q => absurd (by omega) q⟩
    refine jaFor (C := fun x => ∀ S', jcF [55, 56, 57, 58, 59] S S' → S'.1 55 0 = jaPt (S.1 55 0) m (S.1 55 0 n) → S'.1 56 0 = jaPt (S.1 56 0) m (S.1 56 0 n) → S'.1 57 0 = jaPt (S.1 57 0) m (S.1 57 0 n) → S'.1 58 0 = jvCp (S.1 58 0) (4 * m) (S.1 58 0) (4 * n) 4 → S'.1 59 0 = jvCp (S.1 59 0) (42 * m) (S.1 59 0) (42 * n) x → jc_Sc_copyOne_3 D kk k k (nI n) (nI m) (nI 42) (nI x) (jaU σ k S')) (N := 42) ?_ (fun x hx ih => ?_) S' f a1 a2 a3 a4 (by rw [jvCp_0]; exact a5)
    · intro S' f a1 a2 a3 a4 a5
      apply jb_Sc_copyOne_3
      simp (disch := first | omega | decide) only [jaU_eq, jaU_U, nI_add, pk_mul, jaIx_nI, vp_inT, true_and, and_true, ↓jaO0, ↓jaO1, nI_z, nI_z2, nI_z3, nI_z4, nI_z5, nI_lt', nI_le', nI_eq', jaUI_at, jaPt_eq, jaPt_ne, jaUI_o, jaUI_2, jaUL_at, jaUL_o, jaUL_1, jaB_z, jaB_1, ↓jaB_01, Classical.not_not, and_self, true_or, or_true, nI_11, Nat.reduceEqDiff, Nat.reduceAdd, Nat.reduceMul, Nat.add_zero, Nat.zero_add, Nat.mul_zero, not_true_eq_false, not_false_eq_true, false_implies, true_implies]
      refine ⟨fun _ => ?_, fun q => absurd (by omega) q⟩
      exact h S' f a1 a2 a3 a4 a5
    · intro S' f a1 a2 a3 a4 a5
      apply jb_Sc_copyOne_3
      simp (disch := first | omega | decide) only [jaU_eq, jaU_U, nI_add, pk_mul, jaIx_nI, vp_inT, true_and, and_true, ↓jaO0, ↓jaO1, nI_z, nI_z2, nI_z3, nI_z4, nI_z5, nI_lt', nI_le', nI_eq', jaUI_at, jaPt_eq, jaPt_ne, jaUI_o, jaUI_2, jaUL_at, jaUL_o, jaUL_1, jaB_z, jaB_1, ↓jaB_01, Classical.not_not, and_self, true_or, or_true, nI_11, Nat.reduceEqDiff, Nat.reduceAdd, Nat.reduceMul, Nat.add_zero, Nat.zero_add, Nat.mul_zero, not_true_eq_false, not_false_eq_true, false_implies, true_implies, jaU_eq]
      refine ⟨fun q => absurd q (by omega), fun _ => ?_⟩
      refine ih _ (f.ui (by decide)) ?_ ?_ ?_ ?_ ?_
      · rw [jaUI_o (by decide)]; exact a1
      · rw [jaUI_o (by decide)]; exact a2
      · rw [jaUI_o (by decide)]; exact a3
      · rw [jaUI_o (by decide)]; exact a4
      · rw [jaUI_at, hm42, hn42, jvCp_s]
        congr 1
        rw [a5, jvCp_out (by omega)]
  · intro S' f a1 a2 a3 a4 a5
    apply jb_Sc_copyOne_1
    simp (disch := first | omega | decide) only [jaU_eq, jaU_U, nI_add, pk_mul, jaIx_nI, vp_inT, true_and, and_true, ↓jaO0, ↓jaO1, nI_z, nI_z2, nI_z3, nI_z4, nI_z5, nI_lt', nI_le', nI_eq', jaUI_at, jaPt_eq, jaPt_ne, jaUI_o, jaUI_2, jaUL_at, jaUL_o, jaUL_1, jaB_z, jaB_1, ↓jaB_01, Classical.not_not, and_self, true_or, or_true, nI_11, Nat.reduceEqDiff, Nat.reduceAdd, Nat.reduceMul, Nat.add_zero, Nat.zero_add, Nat.mul_zero, not_true_eq_false, not_false_eq_true, false_implies, true_implies, jaU_eq]
    refine ⟨fun q => absurd q (by omega), fun _ => ?_⟩
    refine ih _ (f.ui (by decide)) ?_ ?_ ?_ ?_ ?_
    · rw [jaUI_o (by decide)]; exact a1
    · rw [jaUI_o (by decide)]; exact a2
    · rw [jaUI_o (by decide)]; exact a3
    · rw [jaUI_at, hm4, hn4, jvCp_s]
      congr 1
      rw [a4, jvCp_out (by omega)]
    · rw [jaUI_o (by decide)]; exact a5
  · simp (disch := first | omega | decide) only [jaU_eq, jaU_U, nI_add, pk_mul, jaIx_nI, vp_inT, true_and, and_true, ↓jaO0, ↓jaO1, nI_z, nI_z2, nI_z3, nI_z4, nI_z5, nI_lt', nI_le', nI_eq', jaUI_at, jaPt_eq, jaPt_ne, jaUI_o, jaUI_2, jaUL_at, jaUL_o, jaUL_1, jaB_z, jaB_1, ↓jaB_01, Classical.not_not, and_self, true_or, or_true, nI_11, Nat.reduceEqDiff, Nat.reduceAdd, Nat.reduceMul, Nat.add_zero, Nat.zero_add, Nat.mul_zero, not_true_eq_false, not_false_eq_true, false_implies, true_implies]
  · simp (disch := first | omega | decide) only [jaU_eq, jaU_U, nI_add, pk_mul, jaIx_nI, vp_inT, true_and, and_true, ↓jaO0, ↓jaO1, nI_z, nI_z2, nI_z3, nI_z4, nI_z5, nI_lt', nI_le', nI_eq', jaUI_at, jaPt_eq, jaPt_ne, jaUI_o, jaUI_2, jaUL_at, jaUL_o, jaUL_1, jaB_z, jaB_1, ↓jaB_01, Classical.not_not, and_self, true_or, or_true, nI_11, Nat.reduceEqDiff, Nat.reduceAdd, Nat.reduceMul, Nat.add_zero, Nat.zero_add, Nat.mul_zero, not_true_eq_false, not_false_eq_true, false_implies, true_implies]
  · simp (disch := first | omega | decide) only [jaU_eq, jaU_U, nI_add, pk_mul, jaIx_nI, vp_inT, true_and, and_true, ↓jaO0, ↓jaO1, nI_z, nI_z2, nI_z3, nI_z4, nI_z5, nI_lt', nI_le', nI_eq', jaUI_at, jaPt_eq, jaPt_ne, jaUI_o, jaUI_2, jaUL_at, jaUL_o, jaUL_1, jaB_z, jaB_1, ↓jaB_01, Classical.not_not, and_self, true_or, or_true, nI_11, Nat.reduceEqDiff, Nat.reduceAdd, Nat.reduceMul, Nat.add_zero, Nat.zero_add, Nat.mul_zero, not_true_eq_false, not_false_eq_true, false_implies, true_implies]
  · simp (disch := first | omega | decide) only [jaU_eq, jaU_U, nI_add, pk_mul, jaIx_nI, vp_inT, true_and, and_true, ↓jaO0, ↓jaO1, nI_z, nI_z2, nI_z3, nI_z4, nI_z5, nI_lt', nI_le', nI_eq', jaUI_at, jaPt_eq, jaPt_ne, jaUI_o, jaUI_2, jaUL_at, jaUL_o, jaUL_1, jaB_z, jaB_1, ↓jaB_01, Classical.not_not, and_self, true_or, or_true, nI_11, Nat.reduceEqDiff, Nat.reduceAdd, Nat.reduceMul, Nat.add_zero, Nat.zero_add, Nat.mul_zero, not_true_eq_false, not_false_eq_true, false_implies, true_implies]
    rw [jvCp_0]
  · simp (disch := first | omega | decide) only [jaU_eq, jaU_U, nI_add, pk_mul, jaIx_nI, vp_inT, true_and, and_true, ↓jaO0, ↓jaO1, nI_z, nI_z2, nI_z3, nI_z4, nI_z5, nI_lt', nI_le', nI_eq', jaUI_at, jaPt_eq, jaPt_ne, jaUI_o, jaUI_2, jaUL_at, jaUL_o, jaUL_1, jaB_z, jaB_1, ↓jaB_01, Classical.not_not, and_self, true_or, or_true, nI_11, Nat.reduceEqDiff, Nat.reduceAdd, Nat.reduceMul, Nat.add_zero, Nat.zero_add, Nat.mul_zero, not_true_eq_false, not_false_eq_true, false_implies, true_implies]

set_option maxHeartbeats 1000000 in
theorem sp_Sc_copyOne_x {D : Nat} (hD : 1 ≤ D) {kk : jaT → Prop} {σ : jaT} {S : jaS} {k n m : Nat} {k1 : Nat} (hne : k1 ≠ k) (hn : n < 24) (hm : m < 24) (h : ∀ S', jcF [55, 56, 57, 58, 59] S S' → S'.1 55 0 = jaPt (S.1 55 0) m ((σ k1).1 55 0 n) → S'.1 56 0 = jaPt (S.1 56 0) m ((σ k1).1 56 0 n) → S'.1 57 0 = jaPt (S.1 57 0) m ((σ k1).1 57 0 n) → S'.1 58 0 = jvCp (S.1 58 0) (4 * m) ((σ k1).1 58 0) (4 * n) 4 → S'.1 59 0 = jvCp (S.1 59 0) (42 * m) ((σ k1).1 59 0) (42 * n) 42 → kk (jaU σ k S')) :
    jaDe D jy_Sc_copyOne [jcSc k, jcSc k1, .inl (nI n), .inl (nI m)] (jaU σ k S) (jaKv kk) := by
  obtain ⟨D, rfl, hD⟩ := jaSuc hD
  apply js_Sc_copyOne
  simp (disch := first | omega | decide) only [jaU_eq, jaU_U, nI_add, pk_mul, jaIx_nI, vp_inT, true_and, and_true, ↓jaO0, ↓jaO1, nI_z, nI_z2, nI_z3, nI_z4, nI_z5, nI_lt', nI_le', nI_eq', jaUI_at, jaPt_eq, jaPt_ne, jaUI_o, jaUI_2, jaUL_at, jaUL_o, jaUL_1, jaB_z, jaB_1, ↓jaB_01, Classical.not_not, and_self, true_or, or_true, nI_11, Nat.reduceEqDiff, Nat.reduceAdd, Nat.reduceMul, Nat.add_zero, Nat.zero_add, Nat.mul_zero, not_true_eq_false, not_false_eq_true, false_implies, true_implies, jaU_ne hne]
  have hm4 : ∀ x, m * 4 + x = 4 * m + x := fun x => by omega
  have hn4 : ∀ x, n * 4 + x = 4 * n + x := fun x => by omega
  have hm42 : ∀ x, m * 42 + x = 42 * m + x := fun x => by omega
  have hn42 : ∀ x, n * 42 + x = 42 * n + x := fun x => by omega
  refine jaFor (C := fun x => ∀ S', jcF [55, 56, 57, 58, 59] S S' → S'.1 55 0 = jaPt (S.1 55 0) m ((σ k1).1 55 0 n) → S'.1 56 0 = jaPt (S.1 56 0) m ((σ k1).1 56 0 n) → S'.1 57 0 = jaPt (S.1 57 0) m ((σ k1).1 57 0 n) → S'.1 58 0 = jvCp (S.1 58 0) (4 * m) ((σ k1).1 58 0) (4 * n) x → S'.1 59 0 = S.1 59 0 → jc_Sc_copyOne_1 D kk k k1 (nI n) (nI m) (nI x) (jaU σ k S')) (N := 4) ?_ (fun x hx ih => ?_) (jaUI (jaUI (jaUI S 55 0 m ((σ k1).1 55 0 n)) 56 0 m ((σ k1).1 56 0 n)) 57 0 m ((σ k1).1 57 0 n)) (((jcF.rfl.ui (by decide)).ui (by decide)).ui (by decide)) ?_ ?_ ?_ ?_ ?_
  · intro S' f a1 a2 a3 a4 a5
    apply jb_Sc_copyOne_1
    simp (disch := first | omega | decide) only [jaU_eq, jaU_U, nI_add, pk_mul, jaIx_nI, vp_inT, true_and, and_true, ↓jaO0, ↓jaO1, nI_z, nI_z2, nI_z3, nI_z4, nI_z5, nI_lt', nI_le', nI_eq', jaUI_at, jaPt_eq, jaPt_ne, jaUI_o, jaUI_2, jaUL_at, jaUL_o, jaUL_1, jaB_z, jaB_1, ↓jaB_01, Classical.not_not, and_self, true_or, or_true, nI_11, Nat.reduceEqDiff, Nat.reduceAdd, Nat.reduceMul, Nat.add_zero, Nat.zero_add, Nat.mul_zero, not_true_eq_false, not_false_eq_true, false_implies, true_implies]
    refine ⟨fun _ => ?_, fun q => absurd (by omega) q⟩
    refine jaFor (C := fun x => ∀ S', jcF [55, 56, 57, 58, 59] S S' → S'.1 55 0 = jaPt (S.1 55 0) m ((σ k1).1 55 0 n) → S'.1 56 0 = jaPt (S.1 56 0) m ((σ k1).1 56 0 n) → S'.1 57 0 = jaPt (S.1 57 0) m ((σ k1).1 57 0 n) → S'.1 58 0 = jvCp (S.1 58 0) (4 * m) ((σ k1).1 58 0) (4 * n) 4 → S'.1 59 0 = jvCp (S.1 59 0) (42 * m) ((σ k1).1 59 0) (42 * n) x → jc_Sc_copyOne_3 D kk k k1 (nI n) (nI m) (nI 42) (nI x) (jaU σ k S')) (N := 42) ?_ (fun x hx ih => ?_) S' f a1 a2 a3 a4 (by rw [jvCp_0]; exact a5)
    · intro S' f a1 a2 a3 a4 a5
      apply jb_Sc_copyOne_3
      simp (disch := first | omega | decide) only [jaU_eq, jaU_U, nI_add, pk_mul, jaIx_nI, vp_inT, true_and, and_true, ↓jaO0, ↓jaO1, nI_z, nI_z2, nI_z3, nI_z4, nI_z5, nI_lt', nI_le', nI_eq', jaUI_at, jaPt_eq, jaPt_ne, jaUI_o, jaUI_2, jaUL_at, jaUL_o, jaUL_1, jaB_z, jaB_1, ↓jaB_01, Classical.not_not, and_self, true_or, or_true, nI_11, Nat.reduceEqDiff, Nat.reduceAdd, Nat.reduceMul, Nat.add_zero, Nat.zero_add, Nat.mul_zero, not_true_eq_false, not_false_eq_true, false_implies, true_implies]
      refine ⟨fun _ => ?_, fun q => absurd (by omega) q⟩
      exact h S' f a1 a2 a3 a4 a5
    · intro S' f a1 a2 a3 a4 a5
      apply jb_Sc_copyOne_3
      simp (disch := first | omega | decide) only [jaU_eq, jaU_U, nI_add, pk_mul, jaIx_nI, vp_inT, true_and, and_true, ↓jaO0, ↓jaO1, nI_z, nI_z2, nI_z3, nI_z4, nI_z5, nI_lt', nI_le', nI_eq', jaUI_at, jaPt_eq, jaPt_ne, jaUI_o, jaUI_2, jaUL_at, jaUL_o, jaUL_1, jaB_z, jaB_1, ↓jaB_01, Classical.not_not, and_self, true_or, or_true, nI_11, Nat.reduceEqDiff, Nat.reduceAdd, Nat.reduceMul, Nat.add_zero, Nat.zero_add, Nat.mul_zero, not_true_eq_false, not_false_eq_true, false_implies, true_implies, jaU_ne hne]
      refine ⟨fun q => absurd q (by omega), fun _ => ?_⟩
      refine ih _ (f.ui (by decide)) ?_ ?_ ?_ ?_ ?_
      · rw [jaUI_o (by decide)]; exact a1
      · rw [jaUI_o (by decide)]; exact a2
      · rw [jaUI_o (by decide)]; exact a3
      · rw [jaUI_o (by decide)]; exact a4
      · rw [jaUI_at, hm42, hn42, jvCp_s]
        congr 1
        skip
  · intro S' f a1 a2 a3 a4 a5
    apply jb_Sc_copyOne_1
    simp (disch := first | omega | decide) only [jaU_eq, jaU_U, nI_add, pk_mul, jaIx_nI, vp_inT, true_and, and_true, ↓jaO0, ↓jaO1, nI_z, nI_z2, nI_z3, nI_z4, nI_z5, nI_lt', nI_le', nI_eq', jaUI_at, jaPt_eq, jaPt_ne, jaUI_o, jaUI_2, jaUL_at, jaUL_o, jaUL_1, jaB_z, jaB_1, ↓jaB_01, Classical.not_not, and_self, true_or, or_true, nI_11, Nat.reduceEqDiff, Nat.reduceAdd, Nat.reduceMul, Nat.add_zero, Nat.zero_add, Nat.mul_zero, not_true_eq_false, not_false_eq_true, false_implies, true_implies, jaU_ne hne]
    refine ⟨fun q => absurd q (by omega), fun _ => ?_⟩
    refine ih _ (f.ui (by decide)) ?_ ?_ ?_ ?_ ?_
    · rw [jaUI_o (by decide)]; exact a1
    · rw [jaUI_o (by decide)]; exact a2
    · rw [jaUI_o (by decide)]; exact a3
    · rw [jaUI_at, hm4, hn4, jvCp_s]
      congr 1
      skip
    · rw [jaUI_o (by decide)]; exact a5
  · simp (disch := first | omega | decide) only [jaU_eq, jaU_U, nI_add, pk_mul, jaIx_nI, vp_inT, true_and, and_true, ↓jaO0, ↓jaO1, nI_z, nI_z2, nI_z3, nI_z4, nI_z5, nI_lt', nI_le', nI_eq', jaUI_at, jaPt_eq, jaPt_ne, jaUI_o, jaUI_2, jaUL_at, jaUL_o, jaUL_1, jaB_z, jaB_1, ↓jaB_01, Classical.not_not, and_self, true_or, or_true, nI_11, Nat.reduceEqDiff, Nat.reduceAdd, Nat.reduceMul, Nat.add_zero, Nat.zero_add, Nat.mul_zero, not_true_eq_false, not_false_eq_true, false_implies, true_implies]
  · simp (disch := first | omega | decide) only [jaU_eq, jaU_U, nI_add, pk_mul, jaIx_nI, vp_inT, true_and, and_true, ↓jaO0, ↓jaO1, nI_z, nI_z2, nI_z3, nI_z4, nI_z5, nI_lt', nI_le', nI_eq', jaUI_at, jaPt_eq, jaPt_ne, jaUI_o, jaUI_2, jaUL_at, jaUL_o, jaUL_1, jaB_z, jaB_1, ↓jaB_01, Classical.not_not, and_self, true_or, or_true, nI_11, Nat.reduceEqDiff, Nat.reduceAdd, Nat.reduceMul, Nat.add_zero, Nat.zero_add, Nat.mul_zero, not_true_eq_false, not_false_eq_true, false_implies, true_implies]
  · simp (disch := first | omega | decide) only [jaU_eq, jaU_U, nI_add, pk_mul, jaIx_nI, vp_inT, true_and, and_true, ↓jaO0, ↓jaO1, nI_z, nI_z2, nI_z3, nI_z4, nI_z5, nI_lt', nI_le', nI_eq', jaUI_at, jaPt_eq, jaPt_ne, jaUI_o, jaUI_2, jaUL_at, jaUL_o, jaUL_1, jaB_z, jaB_1, ↓jaB_01, Classical.not_not, and_self, true_or, or_true, nI_11, Nat.reduceEqDiff, Nat.reduceAdd, Nat.reduceMul, Nat.add_zero, Nat.zero_add, Nat.mul_zero, not_true_eq_false, not_false_eq_true, false_implies, true_implies]
  · simp (disch := first | omega | decide) only [jaU_eq, jaU_U, nI_add, pk_mul, jaIx_nI, vp_inT, true_and, and_true, ↓jaO0, ↓jaO1, nI_z, nI_z2, nI_z3, nI_z4, nI_z5, nI_lt', nI_le', nI_eq', jaUI_at, jaPt_eq, jaPt_ne, jaUI_o, jaUI_2, jaUL_at, jaUL_o, jaUL_1, jaB_z, jaB_1, ↓jaB_01, Classical.not_not, and_self, true_or, or_true, nI_11, Nat.reduceEqDiff, Nat.reduceAdd, Nat.reduceMul, Nat.add_zero, Nat.zero_add, Nat.mul_zero, not_true_eq_false, not_false_eq_true, false_implies, true_implies]
    rw [jvCp_0]
  · simp (disch := first | omega | decide) only [jaU_eq, jaU_U, nI_add, pk_mul, jaIx_nI, vp_inT, true_and, and_true, ↓jaO0, ↓jaO1, nI_z, nI_z2, nI_z3, nI_z4, nI_z5, nI_lt', nI_le', nI_eq', jaUI_at, jaPt_eq, jaPt_ne, jaUI_o, jaUI_2, jaUL_at, jaUL_o, jaUL_1, jaB_z, jaB_1, ↓jaB_01, Classical.not_not, and_self, true_or, or_true, nI_11, Nat.reduceEqDiff, Nat.reduceAdd, Nat.reduceMul, Nat.add_zero, Nat.zero_add, Nat.mul_zero, not_true_eq_false, not_false_eq_true, false_implies, true_implies]
theorem sp_Sc_isFull {D : Nat} (hD : 1 ≤ D) {kk : Int32 → jaT → Prop} {σ : jaT} {S : jaS} {k m : Nat} (hm : S.1 54 0 0 = nI m) (hm' : m < 2147483648) (h : kk (jaB (¬ m < 24)) (jaU σ k S)) : jaDe D jy_Sc_isFull [jcSc k] (jaU σ k S) (jaKi kk) := by
  obtain ⟨D, rfl, hD⟩ := jaSuc hD
  apply js_Sc_isFull
  simp (disch := first | omega | decide) only [jaU_eq, jaU_U, nI_add, pk_mul, jaIx_nI, vp_inT, true_and, and_true, ↓jaO0, ↓jaO1, nI_z, nI_z2, nI_z3, nI_z4, nI_z5, nI_lt', nI_le', nI_eq', jaUI_at, jaPt_eq, jaPt_ne, jaUI_o, jaUI_2, jaUL_at, jaUL_o, jaUL_1, jaB_z, jaB_1, ↓jaB_01, Classical.not_not, and_self, true_or, or_true, nI_11, Nat.reduceEqDiff, Nat.reduceAdd, Nat.reduceMul, Nat.add_zero, Nat.zero_add, Nat.mul_zero, not_true_eq_false, not_false_eq_true, false_implies, true_implies, hm]
  exact ⟨fun q => (jaBk h).2 (fun z => z q), fun q => (jaBk h).1 q⟩
set_option maxHeartbeats 1000000 in
theorem sp_St_putTrans {D : Nat} (hD : 4 ≤ D) {kk : jaT → Prop} {σ : jaT} {S : jaS} {s d e : jvA} {k x n : Nat} (hR : jR S (s, d, e)) (hW : jW s d e) (hx : x < 3) (hn : n < jz s 32) (h1 : jz s 32 = 24 → kk (jaU σ k S)) (h : jz s 32 < 24 → ∀ S', jR S' (jvPuts s d e (nI x) n) → jcE S S' → kk (jaU σ k S')) : jaDe D jy_St_putTrans [jcSt k, .inl (nI x), .inl (nI n)] (jaU σ k S) (jaKv kk) := by
  obtain ⟨D, rfl, hD⟩ := jaSuc hD
  have hM := hW.o.many
  have hP := hW.o.pool
  have hC := hW.o.came
  have hO := hW.o.ord
  have o54 : S.1 54 0 0 = nI (jz s 32) := hR.s.1.trans hM.1
  obtain ⟨D2, rfl, hD2⟩ := jaSuc (show 3 ≤ D by omega)
  apply js_St_putTrans
  apply js_Sc_addLike
  refine sp_Sc_isFull (by omega) o54 (by omega) ?_
  simp (disch := first | omega | decide) only [jaU_eq, jaU_U, nI_add, pk_mul, jaIx_nI, vp_inT, true_and, and_true, ↓jaO0, ↓jaO1, nI_z, nI_z2, nI_z3, nI_z4, nI_z5, nI_lt', nI_le', nI_eq', jaUI_at, jaPt_eq, jaPt_ne, jaUI_o, jaUI_2, jaUL_at, jaUL_o, jaUL_1, jaB_z, jaB_1, ↓jaB_01, Classical.not_not, and_self, true_or, or_true, nI_11, Nat.reduceEqDiff, Nat.reduceAdd, Nat.reduceMul, Nat.add_zero, Nat.zero_add, Nat.mul_zero, not_true_eq_false, not_false_eq_true, false_implies, true_implies, o54]
  refine ⟨fun q => ?_, fun q => ?_⟩
  · have h := h q
    refine sp_Sc_copyOne_s (by omega) (show n ≠ jz s 32 by omega) (by omega) q (fun S1 f a1 a2 a3 a4 a5 => ?_)
    have o54' : S1.1 54 0 0 = nI (jz s 32) := by rw [f.s 54 (by decide)]; exact o54
    obtain ⟨w1, w2⟩ := jvPuts_W (x := nI x) hW q hn (by rw [jaIx_nI (by omega)]) (by rw [jaIx_nI (by omega)]; exact hx)
    simp (disch := first | omega | decide) only [jaU_eq, jaU_U, nI_add, pk_mul, jaIx_nI, vp_inT, true_and, and_true, ↓jaO0, ↓jaO1, nI_z, nI_z2, nI_z3, nI_z4, nI_z5, nI_lt', nI_le', nI_eq', jaUI_at, jaPt_eq, jaPt_ne, jaUI_o, jaUI_2, jaUL_at, jaUL_o, jaUL_1, jaB_z, jaB_1, ↓jaB_01, Classical.not_not, and_self, true_or, or_true, nI_11, Nat.reduceEqDiff, Nat.reduceAdd, Nat.reduceMul, Nat.add_zero, Nat.zero_add, Nat.mul_zero, not_true_eq_false, not_false_eq_true, false_implies, true_implies, o54']
    have hdn : jWn (jz s 1) (jvPd d (jz s 32) n (nI x)) (jz s 32) := by
      have z0 : jz (jvPd d (jz s 32) n (nI x)) (133 * jz s 32) = x := (congrArg jaIx jvPd_0).trans (jaIx_nI (by omega))
      exact jWn_m (fun j h1 h2 => jvPd_new h1 h2) ⟨by rw [z0]; exact jvPd_0, by rw [z0]; exact hx⟩ (hW.d n hn)
    have hWd := jW_d (d' := jvPd d (jz s 32) n (nI x)) hW (fun j hj => jvPd_old hj)
    have ne : ∀ j, j ≠ 32 → jaPt s 32 (s 32 + nI 1) j = s j := fun j hj => jaPt_ne hj
    have e32 : jaPt s 32 (s 32 + nI 1) 32 = nI (jz s 32 + 1) := by rw [jaPt_eq, hM.1, nI_add]
    have z32 : jz (jaPt s 32 (s 32 + nI 1)) 32 = jz s 32 + 1 := (congrArg jaIx e32).trans (jaIx_nI (by omega))
    have nz : ∀ j, j ≠ 32 → jz (jaPt s 32 (s 32 + nI 1)) j = jz s j := fun j hj => jz_c (ne j hj)
    unfold jvPuts at h
    simp only [] at h
    have hpd0 : jvPd d (jz s 32) n (nI x) (133 * jz s 32) = nI x := jvPd_0
    have hpdn : ∀ j, 1 ≤ j → j < 133 → jvPd d (jz s 32) n (nI x) (133 * jz s 32 + j) = d (133 * n + j) := fun j h1 h2 => jvPd_new h1 h2
    have hpdo : ∀ j, j < 133 * jz s 32 → jvPd d (jz s 32) n (nI x) j = d j := fun j hj => jvPd_old hj
    generalize jvPd d (jz s 32) n (nI x) = d1 at *
    generalize jaPt s 32 (s 32 + nI 1) = p at *
    have hso : ∀ o, o ≠ 54 → ¬ (55 ≤ o ∧ o < 60) → (jaUI (jaUI S1 55 0 (jz s 32) (nI x)) 54 0 0 (nI (jz s 32 + 1))).1 o = S.1 o := fun o b1 b2 => by
      rw [jaUI_o b1, jaUI_o (by omega)]
      exact f.s o (by simp; omega)
    have t55 : (jaUI (jaUI S1 55 0 (jz s 32) (nI x)) 54 0 0 (nI (jz s 32 + 1))).1 55 0 = jaPt (S.1 55 0) (jz s 32) (nI x) := by
      rw [jaUI_o (by decide), jaUI_at, a1, jaPt_pt]
    have t56 : (jaUI (jaUI S1 55 0 (jz s 32) (nI x)) 54 0 0 (nI (jz s 32 + 1))).1 56 0 = jaPt (S.1 56 0) (jz s 32) (S.1 56 0 n) := by
      rw [jaUI_o (by decide), jaUI_o (by decide), a2]
    have t57 : (jaUI (jaUI S1 55 0 (jz s 32) (nI x)) 54 0 0 (nI (jz s 32 + 1))).1 57 0 = jaPt (S.1 57 0) (jz s 32) (S.1 57 0 n) := by
      rw [jaUI_o (by decide), jaUI_o (by decide), a3]
    have t58 : (jaUI (jaUI S1 55 0 (jz s 32) (nI x)) 54 0 0 (nI (jz s 32 + 1))).1 58 0 = jvCp (S.1 58 0) (4 * jz s 32) (S.1 58 0) (4 * n) 4 := by
      rw [jaUI_o (by decide), jaUI_o (by decide), a4]
    have t59 : (jaUI (jaUI S1 55 0 (jz s 32) (nI x)) 54 0 0 (nI (jz s 32 + 1))).1 59 0 = jvCp (S.1 59 0) (42 * jz s 32) (S.1 59 0) (42 * n) 42 := by
      rw [jaUI_o (by decide), jaUI_o (by decide), a5]
    have t54 : (jaUI (jaUI S1 55 0 (jz s 32) (nI x)) 54 0 0 (nI (jz s 32 + 1))).1 54 0 0 = nI (jz s 32 + 1) := by
      rw [jaUI_at, jaPt_eq]
    have hE : jcE S (jaUI (jaUI S1 55 0 (jz s 32) (nI x)) 54 0 0 (nI (jz s 32 + 1))) := jcE_ui (by decide) (jcE_ui (by decide) (f.e (by decide)))
    generalize jaUI (jaUI S1 55 0 (jz s 32) (nI x)) 54 0 0 (nI (jz s 32 + 1)) = S2 at *
    have hR2 : jR S2 (p, d1, e) := by
      have h10 := hW.w.2.1.2
      have h3 := hW.w.2.2.1
      have h38 := hW.k38
      have h40 := hW.k.2.1.2
      refine ⟨jRw_c (fun j hj => ne j (by omega)) hW.w (jRw_S (fun o h1 h2 => hso o (by omega) (by omega)) hR.w), ⟨by rw [t54]; exact e32.symm, fun m hm => ?_⟩, fun id hid => ?_, jRo_c (fun j hj => ne j (by omega)) hW.o (jRo_S (fun o ho => hso o (by omega) (by omega)) hR.o), jRc_c (fun j hj => ne j (by omega)) h3.2.2 h10 hO.2 (jRc_S (fun o h1 h2 => hso o (by omega) (by omega)) hR.c), jRk_c (fun j hj => ne j (by omega)) h10 (by omega) (by omega) (jRk_S (fun o h1 h2 => hso o (by omega) (by omega)) hR.k), ?_, jRp_c (fun j hj => ne j (by omega)) hC.2 (jRp_S (hso 66 (by decide) (by omega)) hR.p)⟩
      · have hm : m < jz p 32 := hm
        rw [z32] at hm
        show jRt S2 d1 m
        by_cases e1 : m = jz s 32
        · rw [e1]
          refine jRt_m (n := n) (hW.d n hn) (by rw [t55, jaPt_eq, hpd0]) (by rw [t56, jaPt_eq]) (by rw [t57, jaPt_eq]) (fun j hj => by rw [t58, jvCp_in hj]) (fun j hj => by rw [t59, jvCp_in hj]) hpdn (hR.s.2 n hn)
        · have hm2 : m < jz s 32 := by omega
          have hr := hR.s.2 m hm2
          refine jRt_m (n := m) (hW.d m hm2) (by rw [t55, jaPt_ne e1, hpdo _ (by omega)]; exact hr.1) (by rw [t56, jaPt_ne e1]) (by rw [t57, jaPt_ne e1]) (fun j hj => by rw [t58, jvCp_out (by omega)]) (fun j hj => by rw [t59, jvCp_out (by omega)]) (fun j h1 h2 => hpdo _ (by omega)) hr
      · have hid : id < jz p 33 := hid
        rw [nz 33 (by omega)] at hid
        have hi := (hW.e id hid).1.2
        obtain ⟨r1, r2, r3, r4, r5⟩ := hR.e id hid
        show jRi S2 d1 e id
        unfold jRi
        rw [hso 61 (by decide) (by omega), hso 62 (by decide) (by omega), hso 63 (by decide) (by omega), hso 64 (by decide) (by omega), hso 67 (by decide) (by omega), show jz d1 (133 * jz e (9 * id) + 2) = jz d (133 * jz e (9 * id) + 2) from congrArg jaIx (hpdo _ (by omega))]
        exact ⟨r1, r2, r3, r4, r5⟩
      · show S2.1 40 0 5 = p 31
        rw [hso 40 (by decide) (by omega), ne 31 (by omega)]
        exact hR.t
    have hWd2 : jWd p d1 := fun m hm => by
      rw [z32] at hm
      rw [nz 1 (by omega)]
      by_cases q2 : m = jz s 32
      · rw [q2]; exact hdn
      · exact hWd.d m (by omega)
    have hWe2 : jWe p d1 e := fun id hid => by
      rw [nz 33 (by omega)] at hid
      rw [nz 1 (by omega), z32]
      exact jWi_d (by omega) (fun _ _ _ _ => rfl) (fun n hn => hWd.d n hn) (hWd.e id hid)
    have hcnt := hW.o.2.2.2.2.1
    refine sp_St_arriveEntry (by omega) hR2 (jWw_c (fun j hj => ne j (by omega)) hW.w) hWd2 hWe2 (by rw [z32]; omega) (by rw [z32]; omega) (by rw [nz 33 (by omega), ne 33 (by omega)]; exact hP.1) (by rw [nz 33 (by omega)]; exact w2) (by rw [nz 34 (by omega)]; exact hO.2) (by rw [nz 35 (by omega), ne 35 (by omega)]; exact hC.1) (by rw [nz 35 (by omega)]; omega) (fun i hi => ?_) (fun i hi => ?_) (fun S' a b => h S' a (b.trans hE))
    · rw [nz 34 (by omega)] at hi
      rw [nz (41 + i) (by omega), nz 33 (by omega)]
      exact (hW.o.id hi).2
    · have := hC.2
      rw [nz 35 (by omega)] at hi
      rw [nz (81 + i) (by omega), nz 33 (by omega)]
      exact (hW.o.come hi).2
  · exact ⟨fun _ => h1 (by omega), fun z => absurd (by decide) z⟩
end
