section
/-! the class: checks -/
theorem sp_Ck_finish {D : Nat} (hD : 1 ≤ D) {kk : jaT → Prop} {σ : jaT} {S : jaS} {k p t : Nat} (h1 : S.1 44 0 1 = nI p) (hp : p ≤ 40) (h2 : S.1 44 0 2 = nI t) (ht : t ≤ 10)
    (h : ∀ S', jcF [44, 47, 48] S S' → S'.1 44 0 0 = nI 0 → S'.1 44 0 6 = nI p → (∀ q, S'.1 47 0 q = jaIf1 (q < t) (S.1 46 0 q) (S.1 47 0 q)) → (∀ i, i < p → S'.1 48 0 i = S.1 52 0 i) → kk (jaU σ k S')) : jaDe D jy_Ck_finish [jcCk k, jcCp k 0] (jaU σ k S) (jaKv kk) := by
  obtain ⟨D, rfl, hD⟩ := jaSuc hD
  apply js_Ck_finish
  simp (disch := first | omega | decide) only [jaU_eq, jaU_U, nI_add, pk_mul, jaIx_nI, vp_inT, true_and, and_true, ↓jaO0, ↓jaO1, nI_z, nI_z2, nI_z3, nI_z4, nI_z5, nI_lt', nI_le', nI_eq', jaUI_at, jaPt_eq, jaPt_ne, jaUI_o, jaUI_2, jaUL_at, jaUL_o, jaUL_1, jaB_z, jaB_1, ↓jaB_01, Classical.not_not, and_self, true_or, or_true, nI_11, Nat.reduceEqDiff, Nat.reduceAdd, Nat.reduceMul, Nat.add_zero, Nat.zero_add, Nat.mul_zero, not_true_eq_false, not_false_eq_true, false_implies, true_implies, h1]
  have L3 : ∀ S1, jcF [44, 47, 48] S S1 → S1.1 44 0 6 = nI p → (∀ q, S1.1 47 0 q = jaIf1 (q < t) (S.1 46 0 q) (S.1 47 0 q)) → jc_Ck_finish_3 D kk k k 0 (nI 0) (jaU σ k S1) := by
    intro S1 f a b
    refine jaFor (C := fun i => ∀ S', jcF [44, 47, 48] S S' → S'.1 44 0 6 = nI p → (∀ q, S'.1 47 0 q = jaIf1 (q < t) (S.1 46 0 q) (S.1 47 0 q)) → (∀ j, j < i → S'.1 48 0 j = S.1 52 0 j) → jc_Ck_finish_3 D kk k k 0 (nI i) (jaU σ k S')) (N := p) ?_ (fun i hi ih => ?_) S1 f a b (fun j hj => absurd hj (Nat.not_lt_zero _))
    · intro S' f a b c
      apply jb_Ck_finish_3
      simp (disch := first | omega | decide) only [jaU_eq, jaU_U, nI_add, pk_mul, jaIx_nI, vp_inT, true_and, and_true, ↓jaO0, ↓jaO1, nI_z, nI_z2, nI_z3, nI_z4, nI_z5, nI_lt', nI_le', nI_eq', jaUI_at, jaPt_eq, jaPt_ne, jaUI_o, jaUI_2, jaUL_at, jaUL_o, jaUL_1, jaB_z, jaB_1, ↓jaB_01, Classical.not_not, and_self, true_or, or_true, nI_11, Nat.reduceEqDiff, Nat.reduceAdd, Nat.reduceMul, Nat.add_zero, Nat.zero_add, Nat.mul_zero, not_true_eq_false, not_false_eq_true, false_implies, true_implies, a]
      refine ⟨fun _ => ?_, fun q => absurd (by omega) q⟩
      refine h _ (f.ui (by decide)) ?_ ?_ (fun q => ?_) (fun j hj => ?_)
      · simp (disch := first | omega | decide) only [jaU_eq, jaU_U, nI_add, pk_mul, jaIx_nI, vp_inT, true_and, and_true, ↓jaO0, ↓jaO1, nI_z, nI_z2, nI_z3, nI_z4, nI_z5, nI_lt', nI_le', nI_eq', jaUI_at, jaPt_eq, jaPt_ne, jaUI_o, jaUI_2, jaUL_at, jaUL_o, jaUL_1, jaB_z, jaB_1, ↓jaB_01, Classical.not_not, and_self, true_or, or_true, nI_11, Nat.reduceEqDiff, Nat.reduceAdd, Nat.reduceMul, Nat.add_zero, Nat.zero_add, Nat.mul_zero, not_true_eq_false, not_false_eq_true, false_implies, true_implies]
      · simp (disch := first | omega | decide) only [jaU_eq, jaU_U, nI_add, pk_mul, jaIx_nI, vp_inT, true_and, and_true, ↓jaO0, ↓jaO1, nI_z, nI_z2, nI_z3, nI_z4, nI_z5, nI_lt', nI_le', nI_eq', jaUI_at, jaPt_eq, jaPt_ne, jaUI_o, jaUI_2, jaUL_at, jaUL_o, jaUL_1, jaB_z, jaB_1, ↓jaB_01, Classical.not_not, and_self, true_or, or_true, nI_11, Nat.reduceEqDiff, Nat.reduceAdd, Nat.reduceMul, Nat.add_zero, Nat.zero_add, Nat.mul_zero, not_true_eq_false, not_false_eq_true, false_implies, true_implies]
        exact a
      · rw [jaUI_o (by decide)]; exact b q
      · rw [jaUI_o (by decide)]; exact c j hj
    · intro S' f a b c
      apply jb_Ck_finish_3
      simp (disch := first | omega | decide) only [jaU_eq, jaU_U, nI_add, pk_mul, jaIx_nI, vp_inT, true_and, and_true, ↓jaO0, ↓jaO1, nI_z, nI_z2, nI_z3, nI_z4, nI_z5, nI_lt', nI_le', nI_eq', jaUI_at, jaPt_eq, jaPt_ne, jaUI_o, jaUI_2, jaUL_at, jaUL_o, jaUL_1, jaB_z, jaB_1, ↓jaB_01, Classical.not_not, and_self, true_or, or_true, nI_11, Nat.reduceEqDiff, Nat.reduceAdd, Nat.reduceMul, Nat.add_zero, Nat.zero_add, Nat.mul_zero, not_true_eq_false, not_false_eq_true, false_implies, true_implies, a]
      refine ⟨fun q => absurd q (by omega), fun _ => ?_⟩
      refine ih _ (f.ui (by decide)) ?_ (fun q => ?_) (fun j hj => ?_)
      · rw [jaUI_o (by decide)]; exact a
      · rw [jaUI_o (by decide)]; exact b q
      · simp (disch := first | omega | decide) only [jaU_eq, jaU_U, nI_add, pk_mul, jaIx_nI, vp_inT, true_and, and_true, ↓jaO0, ↓jaO1, nI_z, nI_z2, nI_z3, nI_z4, nI_z5, nI_lt', nI_le', nI_eq', jaUI_at, jaPt_eq, jaPt_ne, jaUI_o, jaUI_2, jaUL_at, jaUL_o, jaUL_1, jaB_z, jaB_1, ↓jaB_01, Classical.not_not, and_self, true_or, or_true, nI_11, Nat.reduceEqDiff, Nat.reduceAdd, Nat.reduceMul, Nat.add_zero, Nat.zero_add, Nat.mul_zero, not_true_eq_false, not_false_eq_true, false_implies, true_implies]
        by_cases e : j = i
        · rw [e, jaPt_eq, f.s 52 (by decide)]
        · rw [jaPt_ne e]
          exact c j (by omega)
  refine jaFor (C := fun q0 => ∀ S', jcF [44, 47, 48] S S' → S'.1 44 0 6 = nI p → S'.1 44 0 2 = nI t → (∀ q, S'.1 47 0 q = jaIf1 (q < q0) (S.1 46 0 q) (S.1 47 0 q)) → jc_Ck_finish_1 D kk k k 0 (nI q0) (jaU σ k S')) (N := t) ?_ (fun q0 hq0 ih => ?_) _ (jcF.rfl.ui (by decide)) ?_ ?_ (fun q => ?_)
  · intro S' f a b c
    apply jb_Ck_finish_1
    simp (disch := first | omega | decide) only [jaU_eq, jaU_U, nI_add, pk_mul, jaIx_nI, vp_inT, true_and, and_true, ↓jaO0, ↓jaO1, nI_z, nI_z2, nI_z3, nI_z4, nI_z5, nI_lt', nI_le', nI_eq', jaUI_at, jaPt_eq, jaPt_ne, jaUI_o, jaUI_2, jaUL_at, jaUL_o, jaUL_1, jaB_z, jaB_1, ↓jaB_01, Classical.not_not, and_self, true_or, or_true, nI_11, Nat.reduceEqDiff, Nat.reduceAdd, Nat.reduceMul, Nat.add_zero, Nat.zero_add, Nat.mul_zero, not_true_eq_false, not_false_eq_true, false_implies, true_implies, b]
    refine ⟨fun _ => ?_, fun q => absurd (by omega) q⟩
    exact L3 S' f a c
  · intro S' f a b c
    apply jb_Ck_finish_1
    simp (disch := first | omega | decide) only [jaU_eq, jaU_U, nI_add, pk_mul, jaIx_nI, vp_inT, true_and, and_true, ↓jaO0, ↓jaO1, nI_z, nI_z2, nI_z3, nI_z4, nI_z5, nI_lt', nI_le', nI_eq', jaUI_at, jaPt_eq, jaPt_ne, jaUI_o, jaUI_2, jaUL_at, jaUL_o, jaUL_1, jaB_z, jaB_1, ↓jaB_01, Classical.not_not, and_self, true_or, or_true, nI_11, Nat.reduceEqDiff, Nat.reduceAdd, Nat.reduceMul, Nat.add_zero, Nat.zero_add, Nat.mul_zero, not_true_eq_false, not_false_eq_true, false_implies, true_implies, b]
    refine ⟨fun q => absurd q (by omega), fun _ => ⟨fun q => absurd q (by omega), fun _ => ?_⟩⟩
    refine ih _ (f.ui (by decide)) ?_ ?_ (fun q => ?_)
    · rw [jaUI_o (by decide)]; exact a
    · rw [jaUI_o (by decide)]; exact b
    · simp (disch := first | omega | decide) only [jaU_eq, jaU_U, nI_add, pk_mul, jaIx_nI, vp_inT, true_and, and_true, ↓jaO0, ↓jaO1, nI_z, nI_z2, nI_z3, nI_z4, nI_z5, nI_lt', nI_le', nI_eq', jaUI_at, jaPt_eq, jaPt_ne, jaUI_o, jaUI_2, jaUL_at, jaUL_o, jaUL_1, jaB_z, jaB_1, ↓jaB_01, Classical.not_not, and_self, true_or, or_true, nI_11, Nat.reduceEqDiff, Nat.reduceAdd, Nat.reduceMul, Nat.add_zero, Nat.zero_add, Nat.mul_zero, not_true_eq_false, not_false_eq_true, false_implies, true_implies]
      by_cases e : q = q0
      · rw [e, jaPt_eq, jaIf1_t (by omega), f.s 46 (by decide)]
      · rw [jaPt_ne e, c]
        by_cases e2 : q < q0
        · rw [jaIf1_t e2, jaIf1_t (by omega)]
        · rw [jaIf1_f e2, jaIf1_f (by omega)]
  · simp (disch := first | omega | decide) only [jaU_eq, jaU_U, nI_add, pk_mul, jaIx_nI, vp_inT, true_and, and_true, ↓jaO0, ↓jaO1, nI_z, nI_z2, nI_z3, nI_z4, nI_z5, nI_lt', nI_le', nI_eq', jaUI_at, jaPt_eq, jaPt_ne, jaUI_o, jaUI_2, jaUL_at, jaUL_o, jaUL_1, jaB_z, jaB_1, ↓jaB_01, Classical.not_not, and_self, true_or, or_true, nI_11, Nat.reduceEqDiff, Nat.reduceAdd, Nat.reduceMul, Nat.add_zero, Nat.zero_add, Nat.mul_zero, not_true_eq_false, not_false_eq_true, false_implies, true_implies]
  · simp (disch := first | omega | decide) only [jaU_eq, jaU_U, nI_add, pk_mul, jaIx_nI, vp_inT, true_and, and_true, ↓jaO0, ↓jaO1, nI_z, nI_z2, nI_z3, nI_z4, nI_z5, nI_lt', nI_le', nI_eq', jaUI_at, jaPt_eq, jaPt_ne, jaUI_o, jaUI_2, jaUL_at, jaUL_o, jaUL_1, jaB_z, jaB_1, ↓jaB_01, Classical.not_not, and_self, true_or, or_true, nI_11, Nat.reduceEqDiff, Nat.reduceAdd, Nat.reduceMul, Nat.add_zero, Nat.zero_add, Nat.mul_zero, not_true_eq_false, not_false_eq_true, false_implies, true_implies, h2]
  · rw [jaUI_o (by decide), jaIf1_f (by omega)]
theorem jR_sa {S S' : jaS} {s d e : jvA} (hR : jR S (s, d, e)) (hX : jX s d e) (h37 : s 37 = nI (jz s 37)) (hle : jz s 37 ≤ jz s 34) (h36 : s 36 = nI 1) (h38 : s 38 = nI (jz s 1)) (f : jcF [44, 47, 48] S S') (f1 : S'.1 44 0 0 = nI 0) (f2 : S'.1 44 0 6 = nI (jz s 37)) (f3 : ∀ q, S'.1 47 0 q = jaIf1 (q < jz s 1) (S.1 46 0 q) (S.1 47 0 q)) (f4 : ∀ i, i < jz s 37 → S'.1 48 0 i = S.1 52 0 i) : jR S' (jvSa s, d, e) := by
  have h10 := hX.1.2.1.2
  have h3 := hX.1.2.2.1
  have hO := hX.2.2.2.ord.2
  have hC := hX.2.2.2.came.2
  have z38 : jz s 38 = jz s 1 := (congrArg jaIx h38).trans (jaIx_nI (by omega))
  have so : ∀ o, o ≠ 44 → o ≠ 47 → o ≠ 48 → S'.1 o = S.1 o := fun o a b c => f.s o (by simp [a, b, c])
  have ne : ∀ j, j < 36 ∨ (41 ≤ j ∧ j < 455) → jvSa s j = s j := fun j hj => jvSa_ne h10 (by omega)
  obtain ⟨a, b, c, dd, g⟩ := hR.k
  obtain ⟨b1, b2, b3⟩ := b h36
  have z40 : jz (jvSa s) 40 = jz s 37 := congrArg jaIx (jvSa_40 h10)
  refine jR_upd hR hX.1 (fun j hj => ne j (by omega)) (fun o ho => so o (by omega) (by omega) (by omega)) (jRo_c (fun j hj => ne j (by omega)) hX.2.2.2 (jRo_S (fun o ho => so o (by omega) (by omega) (by omega)) hR.o)) (jRc_c (fun j hj => ne j (by omega)) h3.2.2 h10 hO (jRc_S (fun o h1 h2 => so o (by omega) (by omega) (by omega)) hR.c)) ⟨?_, fun q => ?_, ?_, fun q hq => ?_, fun i hi => ?_⟩ (so 66 (by decide) (by decide) (by decide)) (fun j hj => ne j (by omega)) hC
  · rw [f1, jvSa_in (by omega)]
  · rw [jvSa_in (by omega)] at q
    exact absurd q (by decide)
  · rw [f2, jvSa_40 h10, ← h37]
  · rw [jz_c (ne 1 (by omega))] at hq
    rw [f3, jaIf1_t hq, jvSa_v h10 (by omega), jaIf1_t hq]
    exact b3 q (show q < jz s 38 by omega)
  · rw [z40] at hi
    rw [f4 i hi, jvSa_h h10 (by omega), jaIf1_f (by rw [h37]; exact nI_ge hi (by omega))]
    have := ((hR.c 0 (show 0 < jz s 2 by omega)).2 i (show i < jz s 34 by omega)).1
    simp only [Nat.mul_zero, Nat.add_zero] at this
    exact this
set_option maxHeartbeats 1000000 in
theorem sp_St_takeCheckKey {D : Nat} (hD : 3 ≤ D) {kk : jaT → Prop} {σ : jaT} {S : jaS} {s d e : jvA} {k : Nat} (hR : jR S (s, d, e)) (hW : jW s d e) (h36 : s 36 = nI 1) (hao : jvAo s 0 (jz s 37)) (h : ∀ S', jR S' (jvTn s, d, e) → jcE S S' → kk (jaU σ k S')) : jaDe D jy_St_takeCheckKey [jcSt k] (jaU σ k S) (jaKv kk) := by
  obtain ⟨D, rfl, hD⟩ := jaSuc hD
  have h10 := hW.w.2.1.2
  have h3 := hW.w.2.2.1
  have hO := hW.O
  have hC := hW.o.came.2
  obtain ⟨hK, hK'⟩ := hW.w.2.1
  obtain ⟨k1, k2, k3, k4, k5⟩ : s 36 = nI 1 ∧ s 37 = nI (jz s 37) ∧ jz s 37 ≤ jz s 34 ∧ s 38 = nI (jz s 38) ∧ jz s 38 < jz s 1 := by
    rcases hW.k.1 with z | z
    · rw [h36] at z
      exact absurd z.1 (by decide)
    · exact z
  have h40 := hW.k.2.1.2
  obtain ⟨a, b, c, dd, g⟩ := hR.k
  obtain ⟨⟨b1, b2, b3⟩, b4, b5⟩ := b h36
  have w1 : S.1 30 0 1 = nI (jz s 1) := hR.w.1.2.1.trans hK
  have a : S.1 44 0 0 = nI 1 := a.trans h36
  have b1 : S.1 44 0 1 = nI (jz s 37) := b1.trans k2
  have b2 : S.1 44 0 2 = nI (jz s 38) := b2.trans k4
  have b3 : S.1 44 0 3 = s 39 := b3
  have b4 : ∀ q, q < jz s 1 → jaBt (s 39) q → S.1 45 0 q = s (455 + q) := b4
  have b5 : ∀ q, q < jz s 38 → S.1 46 0 q = s (465 + q) := b5
  have hval : S.1 51 0 (jz s 38) = s (145 + jz s 38) := by
    have := (hR.c 0 (show 0 < jz s 2 by omega)).1 (jz s 38) (show jz s 38 < jz s 1 by omega)
    simp only [Nat.mul_zero, Nat.add_zero] at this
    exact this
  have hTn : jvTn s = jaIf1 (s 38 + nI 1 = s 1) (jvSa (jaPt (jaPt s (465 + jz s 38) (jaIf1 (jaBt (s 39) (jz s 38)) (s (455 + jz s 38)) (s (145 + jz s 38)))) 38 (s 38 + nI 1))) (jaPt (jaPt s (465 + jz s 38) (jaIf1 (jaBt (s 39) (jz s 38)) (s (455 + jz s 38)) (s (145 + jz s 38)))) 38 (s 38 + nI 1)) := by
    simp only [jvTn]
    rw [jaIf1_f (fun x => x.elim (fun y => by rw [h36] at y; exact absurd y (by decide)) (fun y => y hao))]
  rw [hTn] at h
  -- behind the key
  have L : ∀ v, v = jaIf1 (jaBt (s 39) (jz s 38)) (s (455 + jz s 38)) (s (145 + jz s 38)) → ((nI (jz s 38 + 1) < nI (jz s 1) → kk (jaU σ k (jaUI (jaUI S 46 0 (jz s 38) v) 44 0 2 (nI (jz s 38 + 1))))) ∧ (¬ nI (jz s 38 + 1) < nI (jz s 1) → jaDe D jy_Ck_finish [jcCk k, jcCp k 0] (jaU σ k (jaUI (jaUI S 46 0 (jz s 38) v) 44 0 2 (nI (jz s 38 + 1)))) (jaKv kk))) := by
    intro v hv
    rw [← hv] at h
    have e38 : s 38 + nI 1 = nI (jz s 38 + 1) := by
      rw [← nI_add, ← k4]
    rw [e38] at h
    have ne : ∀ j, j ≠ 465 + jz s 38 → j ≠ 38 → jaPt (jaPt s (465 + jz s 38) v) 38 (nI (jz s 38 + 1)) j = s j := fun j h1 h2 => by rw [jaPt_ne h2, jaPt_ne h1]
    have s38 : jaPt (jaPt s (465 + jz s 38) v) 38 (nI (jz s 38 + 1)) 38 = nI (jz s 38 + 1) := jaPt_eq
    have s465 : jaPt (jaPt s (465 + jz s 38) v) 38 (nI (jz s 38 + 1)) (465 + jz s 38) = v := by rw [jaPt_ne (by omega), jaPt_eq]
    have z38 : jz (jaPt (jaPt s (465 + jz s 38) v) 38 (nI (jz s 38 + 1))) 38 = jz s 38 + 1 := (congrArg jaIx s38).trans (jaIx_nI (by omega))
    have so : ∀ o, o ≠ 44 → o ≠ 46 → (jaUI (jaUI S 46 0 (jz s 38) v) 44 0 2 (nI (jz s 38 + 1))).1 o = S.1 o := fun o c1 c2 => by rw [jaUI_o c1, jaUI_o c2]
    have s44 : (jaUI (jaUI S 46 0 (jz s 38) v) 44 0 2 (nI (jz s 38 + 1))).1 44 0 = jaPt (S.1 44 0) 2 (nI (jz s 38 + 1)) := by rw [jaUI_at, jaUI_o (by decide)]
    have s46 : (jaUI (jaUI S 46 0 (jz s 38) v) 44 0 2 (nI (jz s 38 + 1))).1 46 0 = jaPt (S.1 46 0) (jz s 38) v := by rw [jaUI_o (by decide), jaUI_at]
    have sl : jcE S (jaUI (jaUI S 46 0 (jz s 38) v) 44 0 2 (nI (jz s 38 + 1))) := jcE_ui (by decide) (jcE_ui (by decide) rfl)
    generalize jaPt (jaPt s (465 + jz s 38) v) 38 (nI (jz s 38 + 1)) = X at *
    generalize jaUI (jaUI S 46 0 (jz s 38) v) 44 0 2 (nI (jz s 38 + 1)) = S1 at *
    have hX1 : jX X d e := jX_c (fun j hj => ne j (by omega) (by omega)) hW.X
    have z1 := jz_c (ne 1 (by omega) (by omega))
    have z37 := jz_c (ne 37 (by omega) (by omega))
    have hR1 : jR S1 (X, d, e) := by
      refine jR_upd hR hW.w (fun j hj => ne j (by omega) (by omega)) (fun o ho => so o (by omega) (by omega)) (jRo_c (fun j hj => ne j (by omega) (by omega)) hW.o (jRo_S (fun o ho => so o (by omega) (by omega)) hR.o)) (jRc_c (fun j hj => ne j (by omega) (by omega)) h3.2.2 h10 hO (jRc_S (fun o h1 h2 => so o (by omega) (by omega)) hR.c)) ?_ (so 66 (by decide) (by decide)) (fun j hj => ne j (by omega) (by omega)) hC
      unfold jRk
      rw [s44, s46, so 45 (by decide) (by decide), so 47 (by decide) (by decide), so 48 (by decide) (by decide), jaPt_ne (show 0 ≠ 2 by decide), jaPt_ne (show 1 ≠ 2 by decide), jaPt_eq, jaPt_ne (show 3 ≠ 2 by decide), jaPt_ne (show 6 ≠ 2 by decide), ne 36 (by omega) (by omega), ne 37 (by omega) (by omega), ne 39 (by omega) (by omega), ne 40 (by omega) (by omega), s38, z38, z1, jz_c (ne 40 (by omega) (by omega))]
      refine ⟨a.trans h36.symm, fun _ => ⟨⟨b1.trans k2.symm, rfl, b3⟩, fun q hq hb => ?_, fun q hq => ?_⟩, c, fun q hq => ?_, fun i hi => ?_⟩
      · rw [ne _ (by omega) (by omega)]; exact b4 q hq hb
      · by_cases e : q = jz s 38
        · rw [e, jaPt_eq, s465]
        · rw [jaPt_ne e, ne _ (by omega) (by omega)]; exact b5 q (by omega)
      · rw [ne _ (by omega) (by omega)]; exact dd q hq
      · rw [ne _ (by omega) (by omega)]; exact g i hi
    refine ⟨fun q => ?_, fun q => ?_⟩
    · rw [nI_lt' (by omega) (by omega)] at q
      rw [jaIf1_f (by rw [hK, nI_eq' (by omega) (by omega)]; omega)] at h
      exact h S1 hR1 sl
    · rw [nI_lt' (by omega) (by omega)] at q
      have eq1 : jz s 38 + 1 = jz s 1 := by omega
      rw [jaIf1_t (by rw [hK, eq1])] at h
      refine sp_Ck_finish (p := jz s 37) (t := jz s 1) (by omega) (by rw [s44, jaPt_ne (by decide)]; exact b1) (by omega) (by rw [s44, jaPt_eq, eq1]) h10 (fun S2 f f1 f2 f3 f4 => h S2 ?_ ((f.e (by decide)).trans sl))
      refine jR_sa hR1 hX1 (by rw [z37, ne 37 (by omega) (by omega)]; exact k2) (by rw [z37, jz_c (ne 34 (by omega) (by omega))]; exact k3) (by rw [ne 36 (by omega) (by omega)]; exact h36) (by rw [s38, z1, eq1]) f f1 (by rw [z37]; exact f2) (by rw [z1]; exact f3) (by rw [z37]; exact f4)
  apply js_St_takeCheckKey
  simp (disch := first | omega | decide) only [jaU_eq, jaU_U, nI_add, pk_mul, jaIx_nI, vp_inT, true_and, and_true, ↓jaO0, ↓jaO1, nI_z, nI_z2, nI_z3, nI_z4, nI_z5, nI_lt', nI_le', nI_eq', jaUI_at, jaPt_eq, jaPt_ne, jaUI_o, jaUI_2, jaUL_at, jaUL_o, jaUL_1, jaB_z, jaB_1, ↓jaB_01, Classical.not_not, and_self, true_or, or_true, nI_11, Nat.reduceEqDiff, Nat.reduceAdd, Nat.reduceMul, Nat.add_zero, Nat.zero_add, Nat.mul_zero, not_true_eq_false, not_false_eq_true, false_implies, true_implies, w1, b2]
  refine ⟨fun q => absurd q (by omega), fun _ => ?_⟩
  rw [hval]
  have hD2 : 2 ≤ D := by omega
  clear hD
  obtain ⟨D2, rfl, hD2'⟩ := jaSuc hD2
  apply js_Ck_takeNext
  simp (disch := first | omega | decide) only [jaU_eq, jaU_U, nI_add, pk_mul, jaIx_nI, vp_inT, true_and, and_true, ↓jaO0, ↓jaO1, nI_z, nI_z2, nI_z3, nI_z4, nI_z5, nI_lt', nI_le', nI_eq', jaUI_at, jaPt_eq, jaPt_ne, jaUI_o, jaUI_2, jaUL_at, jaUL_o, jaUL_1, jaB_z, jaB_1, ↓jaB_01, Classical.not_not, and_self, true_or, or_true, nI_11, Nat.reduceEqDiff, Nat.reduceAdd, Nat.reduceMul, Nat.add_zero, Nat.zero_add, Nat.mul_zero, not_true_eq_false, not_false_eq_true, false_implies, true_implies, b2]
  refine ⟨fun q => absurd q (by omega), fun _ => ?_⟩
  refine sp_Ck_hasTwin (by omega) (by omega) ?_
  rw [a, b3]
  simp (disch := first | omega | decide) only [jaU_eq, jaU_U, nI_add, pk_mul, jaIx_nI, vp_inT, true_and, and_true, ↓jaO0, ↓jaO1, nI_z, nI_z2, nI_z3, nI_z4, nI_z5, nI_lt', nI_le', nI_eq', jaUI_at, jaPt_eq, jaPt_ne, jaUI_o, jaUI_2, jaUL_at, jaUL_o, jaUL_1, jaB_z, jaB_1, ↓jaB_01, Classical.not_not, and_self, true_or, or_true, nI_11, Nat.reduceEqDiff, Nat.reduceAdd, Nat.reduceMul, Nat.add_zero, Nat.zero_add, Nat.mul_zero, not_true_eq_false, not_false_eq_true, false_implies, true_implies, b2]
  have hw30 : ∀ v, (jaUI (jaUI S 46 0 (jz s 38) v) 44 0 2 (nI (jz s 38 + 1))).1 30 0 1 = nI (jz s 1) := fun v => by rw [jaUI_o (by decide), jaUI_o (by decide)]; exact w1
  refine ⟨fun q => ?_, fun q => ?_⟩
  · have z := L (s (145 + jz s 38)) (jaIf1_f q).symm
    simp (disch := first | omega | decide) only [jaU_eq, jaU_U, nI_add, pk_mul, jaIx_nI, vp_inT, true_and, and_true, ↓jaO0, ↓jaO1, nI_z, nI_z2, nI_z3, nI_z4, nI_z5, nI_lt', nI_le', nI_eq', jaUI_at, jaPt_eq, jaPt_ne, jaUI_o, jaUI_2, jaUL_at, jaUL_o, jaUL_1, jaB_z, jaB_1, ↓jaB_01, Classical.not_not, and_self, true_or, or_true, nI_11, Nat.reduceEqDiff, Nat.reduceAdd, Nat.reduceMul, Nat.add_zero, Nat.zero_add, Nat.mul_zero, not_true_eq_false, not_false_eq_true, false_implies, true_implies, w1] at z
    simp (disch := first | omega | decide) only [jaU_eq, jaU_U, nI_add, pk_mul, jaIx_nI, vp_inT, true_and, and_true, ↓jaO0, ↓jaO1, nI_z, nI_z2, nI_z3, nI_z4, nI_z5, nI_lt', nI_le', nI_eq', jaUI_at, jaPt_eq, jaPt_ne, jaUI_o, jaUI_2, jaUL_at, jaUL_o, jaUL_1, jaB_z, jaB_1, ↓jaB_01, Classical.not_not, and_self, true_or, or_true, nI_11, Nat.reduceEqDiff, Nat.reduceAdd, Nat.reduceMul, Nat.add_zero, Nat.zero_add, Nat.mul_zero, not_true_eq_false, not_false_eq_true, false_implies, true_implies, w1]
    exact z
  · have z := L (s (455 + jz s 38)) (jaIf1_t q).symm
    rw [b4 _ k5 q]
    simp (disch := first | omega | decide) only [jaU_eq, jaU_U, nI_add, pk_mul, jaIx_nI, vp_inT, true_and, and_true, ↓jaO0, ↓jaO1, nI_z, nI_z2, nI_z3, nI_z4, nI_z5, nI_lt', nI_le', nI_eq', jaUI_at, jaPt_eq, jaPt_ne, jaUI_o, jaUI_2, jaUL_at, jaUL_o, jaUL_1, jaB_z, jaB_1, ↓jaB_01, Classical.not_not, and_self, true_or, or_true, nI_11, Nat.reduceEqDiff, Nat.reduceAdd, Nat.reduceMul, Nat.add_zero, Nat.zero_add, Nat.mul_zero, not_true_eq_false, not_false_eq_true, false_implies, true_implies, w1] at z
    simp (disch := first | omega | decide) only [jaU_eq, jaU_U, nI_add, pk_mul, jaIx_nI, vp_inT, true_and, and_true, ↓jaO0, ↓jaO1, nI_z, nI_z2, nI_z3, nI_z4, nI_z5, nI_lt', nI_le', nI_eq', jaUI_at, jaPt_eq, jaPt_ne, jaUI_o, jaUI_2, jaUL_at, jaUL_o, jaUL_1, jaB_z, jaB_1, ↓jaB_01, Classical.not_not, and_self, true_or, or_true, nI_11, Nat.reduceEqDiff, Nat.reduceAdd, Nat.reduceMul, Nat.add_zero, Nat.zero_add, Nat.mul_zero, not_true_eq_false, not_false_eq_true, false_implies, true_implies, w1]
    exact z
end
