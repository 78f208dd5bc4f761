section
/-! the class: a check begins, a copy crashes -/
theorem sp_St_beginCheck {D : Nat} (hD : 2 ≤ D) {kk : jaT → Prop} {σ : jaT} {S : jaS} {s d e : jvA} {k : Nat} (hR : jR S (s, d, e)) (hW : jW s d e) (h36 : s 36 = nI 0) (h : ∀ S', jR S' (jvCh s, d, e) → jcE S S' → kk (jaU σ k S')) : jaDe D jy_St_beginCheck [jcSt k] (jaU σ k S) (jaKv kk) := by
  obtain ⟨D, rfl, hD⟩ := jaSuc hD
  have h10 := hW.w.2.1.2
  have h3 := hW.w.2.2.1
  have hO := hW.o.ord
  have hC := hW.o.came.2
  obtain ⟨hK, hK'⟩ := hW.w.2.1
  obtain ⟨D2, rfl, hD2⟩ := jaSuc (show 1 ≤ D by omega)
  have w1 : S.1 30 0 1 = nI (jz s 1) := hR.w.1.2.1.trans hK
  have o60 : S.1 60 0 1 = nI (jz s 34) := hR.o.2.1.trans hO.1
  have hoff : s 38 = nI 0 ∧ s 39 = nI 0 := by
    rcases hW.k.1 with q | q
    · exact ⟨q.2.2.1, q.2.2.2⟩
    · rw [h36] at q
      exact absurd q.1 (by decide)
  have ne : ∀ j, j ≠ 36 → j ≠ 37 → jaPt (jaPt s 36 (nI 1)) 37 (s 34) j = s j := fun j h1 h2 => by rw [jaPt_ne h2, jaPt_ne h1]
  have e36 : jaPt (jaPt s 36 (nI 1)) 37 (s 34) 36 = nI 1 := by rw [jaPt_ne (by decide), jaPt_eq]
  have e37 : jaPt (jaPt s 36 (nI 1)) 37 (s 34) 37 = s 34 := jaPt_eq
  unfold jvCh at h
  have hX1 : jX (jaPt (jaPt s 36 (nI 1)) 37 (s 34)) d e := jX_c (fun j hj => ne j (by omega) (by omega)) hW.X
  have so : ∀ o, o ≠ 44 → (jaUI (jaUI (jaUI (jaUI S 44 0 0 (nI 1)) 44 0 1 (nI (jz s 34))) 44 0 2 (nI 0)) 44 0 3 (nI 0)).1 o = S.1 o := fun o ho => by rw [jaUI_o ho, jaUI_o ho, jaUI_o ho, jaUI_o ho]
  have s44 : (jaUI (jaUI (jaUI (jaUI S 44 0 0 (nI 1)) 44 0 1 (nI (jz s 34))) 44 0 2 (nI 0)) 44 0 3 (nI 0)).1 44 0 = jaPt (jaPt (jaPt (jaPt (S.1 44 0) 0 (nI 1)) 1 (nI (jz s 34))) 2 (nI 0)) 3 (nI 0) := by rw [jaUI_at, jaUI_at, jaUI_at, jaUI_at]
  have sl : jcE S (jaUI (jaUI (jaUI (jaUI S 44 0 0 (nI 1)) 44 0 1 (nI (jz s 34))) 44 0 2 (nI 0)) 44 0 3 (nI 0)) := jcE_ui (by decide) (jcE_ui (by decide) (jcE_ui (by decide) (jcE_ui (by decide) rfl)))
  apply js_St_beginCheck
  simp (disch := first | omega | decide) only [jaU_eq, jaU_U, nI_add, pk_mul, jaIx_nI, vp_inT, true_and, and_true, ↓jaO0, ↓jaO1, nI_z, nI_z2, nI_z3, nI_z4, nI_z5, nI_lt', nI_le', nI_eq', jaUI_at, jaPt_eq, jaPt_ne, jaUI_o, jaUI_2, jaUL_at, jaUL_o, jaUL_1, jaB_z, jaB_1, ↓jaB_01, Classical.not_not, and_self, true_or, or_true, nI_11, Nat.reduceEqDiff, Nat.reduceAdd, Nat.reduceMul, Nat.add_zero, Nat.zero_add, Nat.mul_zero, not_true_eq_false, not_false_eq_true, false_implies, true_implies, o60]
  apply js_Ck_begin
  simp (disch := first | omega | decide) only [jaU_eq, jaU_U, nI_add, pk_mul, jaIx_nI, vp_inT, true_and, and_true, ↓jaO0, ↓jaO1, nI_z, nI_z2, nI_z3, nI_z4, nI_z5, nI_lt', nI_le', nI_eq', jaUI_at, jaPt_eq, jaPt_ne, jaUI_o, jaUI_2, jaUL_at, jaUL_o, jaUL_1, jaB_z, jaB_1, ↓jaB_01, Classical.not_not, and_self, true_or, or_true, nI_11, Nat.reduceEqDiff, Nat.reduceAdd, Nat.reduceMul, Nat.add_zero, Nat.zero_add, Nat.mul_zero, not_true_eq_false, not_false_eq_true, false_implies, true_implies, w1]
  generalize jaUI (jaUI (jaUI (jaUI S 44 0 0 (nI 1)) 44 0 1 (nI (jz s 34))) 44 0 2 (nI 0)) 44 0 3 (nI 0) = S1 at *
  generalize jaPt (jaPt s 36 (nI 1)) 37 (s 34) = X at *
  have hR1 : jR S1 (X, d, e) := by
    refine jR_upd hR hW.w (fun j hj => ne j (by omega) (by omega)) (fun o ho => so o (by omega)) (jRo_c (fun j hj => ne j (by omega) (by omega)) hW.o (jRo_S (fun o ho => so o (by omega)) hR.o)) (jRc_c (fun j hj => ne j (by omega) (by omega)) h3.2.2 h10 hO.2 (jRc_S (fun o h1 h2 => so o (by omega)) hR.c)) ?_ (so 66 (by decide)) (fun j hj => ne j (by omega) (by omega)) hC
    obtain ⟨a, b, c, dd, g⟩ := hR.k
    have h40 := hW.k.2.1.2
    have z38 : jz X 38 = 0 := by rw [jz, ne 38 (by omega) (by omega), hoff.1]; decide
    unfold jRk
    rw [s44, so 45 (by decide), so 46 (by decide), so 47 (by decide), so 48 (by decide), ne 40 (by omega) (by omega), jz_c (ne 1 (by omega) (by omega)), jz_c (ne 40 (by omega) (by omega)), e36, e37, z38, ne 38 (by omega) (by omega), ne 39 (by omega) (by omega), hoff.1, hoff.2]
    refine ⟨by simp (disch := first | omega | decide) only [jaU_eq, jaU_U, nI_add, pk_mul, jaIx_nI, vp_inT, true_and, and_true, ↓jaO0, ↓jaO1, nI_z, nI_z2, nI_z3, nI_z4, nI_z5, nI_lt', nI_le', nI_eq', jaUI_at, jaPt_eq, jaPt_ne, jaUI_o, jaUI_2, jaUL_at, jaUL_o, jaUL_1, jaB_z, jaB_1, ↓jaB_01, Classical.not_not, and_self, true_or, or_true, nI_11, Nat.reduceEqDiff, Nat.reduceAdd, Nat.reduceMul, Nat.add_zero, Nat.zero_add, Nat.mul_zero, not_true_eq_false, not_false_eq_true, false_implies, true_implies], fun _ => ⟨⟨?_, ?_, ?_⟩, fun q hq hb => absurd hb (jaBt_0 (by omega)), fun q hq => absurd hq (Nat.not_lt_zero _)⟩, ?_, fun q hq => ?_, fun i hi => ?_⟩
    · simp (disch := first | omega | decide) only [jaU_eq, jaU_U, nI_add, pk_mul, jaIx_nI, vp_inT, true_and, and_true, ↓jaO0, ↓jaO1, nI_z, nI_z2, nI_z3, nI_z4, nI_z5, nI_lt', nI_le', nI_eq', jaUI_at, jaPt_eq, jaPt_ne, jaUI_o, jaUI_2, jaUL_at, jaUL_o, jaUL_1, jaB_z, jaB_1, ↓jaB_01, Classical.not_not, and_self, true_or, or_true, nI_11, Nat.reduceEqDiff, Nat.reduceAdd, Nat.reduceMul, Nat.add_zero, Nat.zero_add, Nat.mul_zero, not_true_eq_false, not_false_eq_true, false_implies, true_implies]
      exact hO.1.symm
    · simp (disch := first | omega | decide) only [jaU_eq, jaU_U, nI_add, pk_mul, jaIx_nI, vp_inT, true_and, and_true, ↓jaO0, ↓jaO1, nI_z, nI_z2, nI_z3, nI_z4, nI_z5, nI_lt', nI_le', nI_eq', jaUI_at, jaPt_eq, jaPt_ne, jaUI_o, jaUI_2, jaUL_at, jaUL_o, jaUL_1, jaB_z, jaB_1, ↓jaB_01, Classical.not_not, and_self, true_or, or_true, nI_11, Nat.reduceEqDiff, Nat.reduceAdd, Nat.reduceMul, Nat.add_zero, Nat.zero_add, Nat.mul_zero, not_true_eq_false, not_false_eq_true, false_implies, true_implies]
    · simp (disch := first | omega | decide) only [jaU_eq, jaU_U, nI_add, pk_mul, jaIx_nI, vp_inT, true_and, and_true, ↓jaO0, ↓jaO1, nI_z, nI_z2, nI_z3, nI_z4, nI_z5, nI_lt', nI_le', nI_eq', jaUI_at, jaPt_eq, jaPt_ne, jaUI_o, jaUI_2, jaUL_at, jaUL_o, jaUL_1, jaB_z, jaB_1, ↓jaB_01, Classical.not_not, and_self, true_or, or_true, nI_11, Nat.reduceEqDiff, Nat.reduceAdd, Nat.reduceMul, Nat.add_zero, Nat.zero_add, Nat.mul_zero, not_true_eq_false, not_false_eq_true, false_implies, true_implies]
    · simp (disch := first | omega | decide) only [jaU_eq, jaU_U, nI_add, pk_mul, jaIx_nI, vp_inT, true_and, and_true, ↓jaO0, ↓jaO1, nI_z, nI_z2, nI_z3, nI_z4, nI_z5, nI_lt', nI_le', nI_eq', jaUI_at, jaPt_eq, jaPt_ne, jaUI_o, jaUI_2, jaUL_at, jaUL_o, jaUL_1, jaB_z, jaB_1, ↓jaB_01, Classical.not_not, and_self, true_or, or_true, nI_11, Nat.reduceEqDiff, Nat.reduceAdd, Nat.reduceMul, Nat.add_zero, Nat.zero_add, Nat.mul_zero, not_true_eq_false, not_false_eq_true, false_implies, true_implies]
      exact c
    · rw [ne _ (by omega) (by omega)]; exact dd q hq
    · rw [ne _ (by omega) (by omega)]; exact g i hi
  refine ⟨fun q => ?_, fun q => ?_⟩
  · rw [jaIf1_f (by rw [hK, nI_z (by omega)]; exact q)] at h
    exact h S1 hR1 sl
  · rw [jaIf1_t (by rw [hK, nI_z (by omega)]; exact q)] at h
    have z37 : jz X 37 = jz s 34 := congrArg jaIx e37
    have z1 := jz_c (ne 1 (by omega) (by omega))
    have a1 : S1.1 44 0 1 = nI (jz s 34) := by
      rw [s44]
      simp (disch := first | omega | decide) only [jaU_eq, jaU_U, nI_add, pk_mul, jaIx_nI, vp_inT, true_and, and_true, ↓jaO0, ↓jaO1, nI_z, nI_z2, nI_z3, nI_z4, nI_z5, nI_lt', nI_le', nI_eq', jaUI_at, jaPt_eq, jaPt_ne, jaUI_o, jaUI_2, jaUL_at, jaUL_o, jaUL_1, jaB_z, jaB_1, ↓jaB_01, Classical.not_not, and_self, true_or, or_true, nI_11, Nat.reduceEqDiff, Nat.reduceAdd, Nat.reduceMul, Nat.add_zero, Nat.zero_add, Nat.mul_zero, not_true_eq_false, not_false_eq_true, false_implies, true_implies]
    have a2 : S1.1 44 0 2 = nI 0 := by
      rw [s44]
      simp (disch := first | omega | decide) only [jaU_eq, jaU_U, nI_add, pk_mul, jaIx_nI, vp_inT, true_and, and_true, ↓jaO0, ↓jaO1, nI_z, nI_z2, nI_z3, nI_z4, nI_z5, nI_lt', nI_le', nI_eq', jaUI_at, jaPt_eq, jaPt_ne, jaUI_o, jaUI_2, jaUL_at, jaUL_o, jaUL_1, jaB_z, jaB_1, ↓jaB_01, Classical.not_not, and_self, true_or, or_true, nI_11, Nat.reduceEqDiff, Nat.reduceAdd, Nat.reduceMul, Nat.add_zero, Nat.zero_add, Nat.mul_zero, not_true_eq_false, not_false_eq_true, false_implies, true_implies]
    refine sp_Ck_finish (p := jz s 34) (t := 0) (by omega) a1 hO.2 a2 (by omega) (fun S2 f f1 f2 f3 f4 => h S2 ?_ ((f.e (by decide)).trans sl))
    refine jR_sa hR1 hX1 (by rw [z37, e37]; exact hO.1) (by rw [z37, jz_c (ne 34 (by omega) (by omega))]; exact Nat.le_refl _) e36 (by rw [ne 38 (by omega) (by omega), z1, q]; exact hoff.1) f f1 (by rw [z37]; exact f2) (by rw [z1, q]; exact f3) (by rw [z37]; exact f4)
set_option maxHeartbeats 2000000 in
theorem sp_St_crashCopy {D : Nat} (hD : 1 ≤ D) {kk : jaT → Prop} {σ : jaT} {S : jaS} {s d e : jvA} {k c : Nat} (hR : jR S (s, d, e)) (hW : jW s d e) (hc : c < jz s 2) (h : ∀ S', jR S' (jvCr s c, d, e) → jcE S S' → kk (jaU σ k S')) : jaDe D jy_St_crashCopy [jcSt k, .inl (nI c)] (jaU σ k S) (jaKv kk) := by
  obtain ⟨D, rfl, hD⟩ := jaSuc hD
  have h10 := hW.w.2.1.2
  have h3 := hW.w.2.2.1
  have hO := hW.o.ord
  have hC := hW.o.came.2
  obtain ⟨hK, hK'⟩ := hW.w.2.1
  have h40 := hW.k.2.1
  have w1 : S.1 30 0 1 = nI (jz s 1) := hR.w.1.2.1.trans hK
  have o60 : S.1 60 0 1 = nI (jz s 34) := hR.o.2.1.trans hO.1
  have k6 : S.1 44 0 6 = nI (jz s 40) := hR.k.2.2.1.trans h40.1
  have hv : ∀ q, q < jz s 1 → S.1 47 0 q = s (475 + q) := hR.k.2.2.2.1
  have hh : ∀ i, i < jz s 40 → S.1 48 0 i = s (485 + i) := hR.k.2.2.2.2
  have hc3 : c < 3 := by omega
  have fin : ∀ S1, jcF [44, 51, 52] S S1 → (∀ c', c' ≠ c → S1.1 51 c' = S.1 51 c' ∧ S1.1 52 c' = S.1 52 c') → (∀ q, q < jz s 1 → S1.1 51 c q = s (475 + q)) → (∀ i, i < jz s 34 → S1.1 52 c i = jaIf1 (s 40 ≤ nI i) (nI 0) (s (485 + i))) → (¬ c = 0 → S1.1 44 = S.1 44) → (c = 0 → S1.1 44 0 = jaPt (S.1 44 0) 0 (nI 0)) → jR S1 (jvCr s c, d, e) := by
    intro S1 f g1 g2 g3 g4 g5
    have so : ∀ o, o ≠ 44 → o ≠ 51 → o ≠ 52 → S1.1 o = S.1 o := fun o a b c => f.s o (by simp [a, b, c])
    have ne : ∀ j, ¬ ((36 ≤ j ∧ j ≤ 39) ∨ (455 ≤ j ∧ j < 475)) → ¬ (145 + 10 * c ≤ j ∧ j < 155 + 10 * c) ∧ ¬ (175 + 40 * c ≤ j ∧ j < 215 + 40 * c) ∧ ¬ (295 + 40 * c ≤ j ∧ j < 335 + 40 * c) → jvCr s c j = s j := fun j h1 h2 => (jvCr_ne hc3 h2).trans (jvC0_ne h1)
    refine jR_upd hR hW.w (fun j hj => ne j (by omega) (by omega)) (fun o ho => so o (by omega) (by omega) (by omega)) (jRo_c (fun j hj => ne j (by omega) (by omega)) hW.o (jRo_S (fun o ho => so o (by omega) (by omega) (by omega)) hR.o)) ?_ ?_ (so 66 (by decide) (by decide) (by decide)) (fun j hj => ne j (by omega) (by omega)) hC
    · intro c' hc'
      rw [jz_c (ne 2 (by omega) (by omega))] at hc'
      unfold jRc1
      rw [jz_c (ne 1 (by omega) (by omega)), jz_c (ne 34 (by omega) (by omega))]
      by_cases q : c' = c
      · rw [q]
        refine ⟨fun q0 hq0 => ?_, fun i hi => ?_⟩
        · rw [g2 q0 hq0, jvCr_v hc3 (by omega)]
        · rw [g3 i hi, jvCr_h hc3 (by omega)]
          refine ⟨rfl, fun z => ?_⟩
          exfalso
          by_cases q2 : s 40 ≤ nI i
          · rw [jaIf1_t q2] at z
            exact absurd z (by decide)
          · rw [jaIf1_f q2] at z
            rw [h40.1, nI_le' (by omega) (by omega)] at q2
            have := hW.k.2.2 i (by omega)
            rw [this.1, nI_eq' (by omega) (by omega)] at z
            omega
      · rw [(g1 c' q).1, (g1 c' q).2, so 53 (by decide) (by decide) (by decide)]
        obtain ⟨a, b⟩ := hR.c c' hc'
        have hc' : c' < jz s 2 := hc'
        refine ⟨fun q0 hq0 => ?_, fun i hi => ?_⟩
        · rw [ne _ (by omega) (by omega)]; exact a q0 hq0
        · rw [ne _ (by omega) (by omega), ne _ (by omega) (by omega)]; exact b i hi
    · obtain ⟨a, b, cc, dd, g⟩ := hR.k
      by_cases q : c = 0
      · subst q
        have e36 : jvCr s 0 36 = nI 0 := by
          rw [jvCr_ne (by decide) (by omega)]
          unfold jvC0
          rw [jaIf1_t rfl, jvCe_in (by omega)]
        unfold jRk
        rw [g5 rfl, so 45 (by decide) (by decide) (by decide), so 46 (by decide) (by decide) (by decide), so 47 (by decide) (by decide) (by decide), so 48 (by decide) (by decide) (by decide), e36, ne 40 (by omega) (by omega), jz_c (ne 40 (by omega) (by omega)), jz_c (ne 1 (by omega) (by omega))]
        refine ⟨jaPt_eq, fun z => absurd z (by decide), ?_, fun q hq => ?_, fun i hi => ?_⟩
        · rw [jaPt_ne (by decide)]; exact cc
        · rw [ne _ (by omega) (by omega)]; exact dd q hq
        · rw [ne _ (by omega) (by omega)]; exact g i hi
      · have ec : ∀ j, j = 1 ∨ (36 ≤ j ∧ j ≤ 40) ∨ (455 ≤ j ∧ j < 525) → jvCr s c j = s j := fun j hj => by
          rw [jvCr_ne hc3 (by omega)]
          unfold jvC0
          rw [jaIf1_f q]
        have h38 := hW.k38
        refine jRk_c ec h10 (by omega) (by omega) ?_
        unfold jRk
        rw [g4 q, so 45 (by decide) (by decide) (by decide), so 46 (by decide) (by decide) (by decide), so 47 (by decide) (by decide) (by decide), so 48 (by decide) (by decide) (by decide)]
        exact hR.k
  have L3 : ∀ S1, jcF [51, 52] S S1 → (∀ c', c' ≠ c → S1.1 51 c' = S.1 51 c' ∧ S1.1 52 c' = S.1 52 c') → (∀ q, q < jz s 1 → S1.1 51 c q = s (475 + q)) → jc_St_crashCopy_3 D kk k (nI c) k c (nI 0) (jaU σ k S1) := by
    intro S1 f g1 g2
    refine jaFor (C := fun i => ∀ S', jcF [51, 52] S S' → (∀ c', c' ≠ c → S'.1 51 c' = S.1 51 c' ∧ S'.1 52 c' = S.1 52 c') → (∀ q, q < jz s 1 → S'.1 51 c q = s (475 + q)) → (∀ j, j < i → S'.1 52 c j = jaIf1 (s 40 ≤ nI j) (nI 0) (s (485 + j))) → jc_St_crashCopy_3 D kk k (nI c) k c (nI i) (jaU σ k S')) (N := jz s 34) ?_ (fun i hi ih => ?_) S1 f g1 g2 (fun j hj => absurd hj (Nat.not_lt_zero _))
    · intro S' f g1 g2 g3
      have e60 : S'.1 60 0 1 = nI (jz s 34) := by rw [f.s 60 (by decide)]; exact o60
      apply jb_St_crashCopy_3
      simp (disch := first | omega | decide) only [jaU_eq, jaU_U, nI_add, pk_mul, jaIx_nI, vp_inT, true_and, and_true, ↓jaO0, ↓jaO1, nI_z, nI_z2, nI_z3, nI_z4, nI_z5, nI_lt', nI_le', nI_eq', jaUI_at, jaPt_eq, jaPt_ne, jaUI_o, jaUI_2, jaUL_at, jaUL_o, jaUL_1, jaB_z, jaB_1, ↓jaB_01, Classical.not_not, and_self, true_or, or_true, nI_11, Nat.reduceEqDiff, Nat.reduceAdd, Nat.reduceMul, Nat.add_zero, Nat.zero_add, Nat.mul_zero, not_true_eq_false, not_false_eq_true, false_implies, true_implies, e60]
      refine ⟨fun _ => ?_, fun q => absurd (by omega) q⟩
      refine ⟨fun q => ?_, fun q => ?_⟩
      · exact h S' (fin S' (f.mono (by decide)) g1 g2 g3 (fun _ => f.s 44 (by decide)) (fun z => absurd z q)) (f.e (by decide))
      · refine h _ (fin _ ((f.mono (by decide)).ui (by decide)) (fun c' hc' => ?_) (fun q hq => ?_) (fun i hi => ?_) (fun z => absurd q z) (fun _ => ?_)) (jcE_ui (by decide) (f.e (by decide)))
        · rw [jaUI_o (by decide), jaUI_o (by decide)]; exact g1 c' hc'
        · rw [jaUI_o (by decide)]; exact g2 q hq
        · rw [jaUI_o (by decide)]; exact g3 i hi
        · rw [jaUI_at, f.s 44 (by decide)]
    · intro S' f g1 g2 g3
      have e60 : S'.1 60 0 1 = nI (jz s 34) := by rw [f.s 60 (by decide)]; exact o60
      have e6 : S'.1 44 0 6 = nI (jz s 40) := by rw [f.s 44 (by decide)]; exact k6
      have e48 : i < jz s 40 → S'.1 48 0 i = s (485 + i) := fun q => by rw [f.s 48 (by decide)]; exact hh i q
      apply jb_St_crashCopy_3
      simp (disch := first | omega | decide) only [jaU_eq, jaU_U, nI_add, pk_mul, jaIx_nI, vp_inT, true_and, and_true, ↓jaO0, ↓jaO1, nI_z, nI_z2, nI_z3, nI_z4, nI_z5, nI_lt', nI_le', nI_eq', jaUI_at, jaPt_eq, jaPt_ne, jaUI_o, jaUI_2, jaUL_at, jaUL_o, jaUL_1, jaB_z, jaB_1, ↓jaB_01, Classical.not_not, and_self, true_or, or_true, nI_11, Nat.reduceEqDiff, Nat.reduceAdd, Nat.reduceMul, Nat.add_zero, Nat.zero_add, Nat.mul_zero, not_true_eq_false, not_false_eq_true, false_implies, true_implies, e60, e6]
      refine ⟨fun q => absurd q (by omega), fun _ => ?_⟩
      have st : ∀ v, v = jaIf1 (s 40 ≤ nI i) (nI 0) (s (485 + i)) → jc_St_crashCopy_3 D kk k (nI c) k c (nI (i + 1)) (jaU σ k (jaUI S' 52 c i v)) := by
        intro v hv
        refine ih _ (f.ui (by decide)) (fun c' hc' => ?_) (fun q hq => ?_) (fun j hj => ?_)
        · rw [jaUI_o (by decide), jaUI_c hc']; exact g1 c' hc'
        · rw [jaUI_o (by decide)]; exact g2 q hq
        · rw [jaUI_at]
          by_cases q : j = i
          · rw [q, jaPt_eq]; exact hv
          · rw [jaPt_ne q]; exact g3 j (by omega)
      refine ⟨fun q => st _ ?_, fun q => ?_⟩
      · rw [jaIf1_t (by rw [h40.1, nI_le' (by omega) (by omega)]; exact q)]
      · rw [e48 (by omega)]
        exact st _ (by rw [jaIf1_f (by rw [h40.1, nI_le' (by omega) (by omega)]; exact q)])
  apply js_St_crashCopy
  simp (disch := first | omega | decide) only [jaU_eq, jaU_U, nI_add, pk_mul, jaIx_nI, vp_inT, true_and, and_true, ↓jaO0, ↓jaO1, nI_z, nI_z2, nI_z3, nI_z4, nI_z5, nI_lt', nI_le', nI_eq', jaUI_at, jaPt_eq, jaPt_ne, jaUI_o, jaUI_2, jaUL_at, jaUL_o, jaUL_1, jaB_z, jaB_1, ↓jaB_01, Classical.not_not, and_self, true_or, or_true, nI_11, Nat.reduceEqDiff, Nat.reduceAdd, Nat.reduceMul, Nat.add_zero, Nat.zero_add, Nat.mul_zero, not_true_eq_false, not_false_eq_true, false_implies, true_implies]
  refine jaFor (C := fun q0 => ∀ S', jcF [51, 52] S S' → (∀ c', c' ≠ c → S'.1 51 c' = S.1 51 c' ∧ S'.1 52 c' = S.1 52 c') → (∀ q, q < q0 → S'.1 51 c q = s (475 + q)) → jc_St_crashCopy_1 D kk k (nI c) k c (nI q0) (jaU σ k S')) (N := jz s 1) ?_ (fun q0 hq0 ih => ?_) S jcF.rfl (fun _ _ => ⟨rfl, rfl⟩) (fun q hq => absurd hq (Nat.not_lt_zero _))
  · intro S' f g1 g2
    have e1 : S'.1 30 0 1 = nI (jz s 1) := by rw [f.s 30 (by decide)]; exact w1
    apply jb_St_crashCopy_1
    simp (disch := first | omega | decide) only [jaU_eq, jaU_U, nI_add, pk_mul, jaIx_nI, vp_inT, true_and, and_true, ↓jaO0, ↓jaO1, nI_z, nI_z2, nI_z3, nI_z4, nI_z5, nI_lt', nI_le', nI_eq', jaUI_at, jaPt_eq, jaPt_ne, jaUI_o, jaUI_2, jaUL_at, jaUL_o, jaUL_1, jaB_z, jaB_1, ↓jaB_01, Classical.not_not, and_self, true_or, or_true, nI_11, Nat.reduceEqDiff, Nat.reduceAdd, Nat.reduceMul, Nat.add_zero, Nat.zero_add, Nat.mul_zero, not_true_eq_false, not_false_eq_true, false_implies, true_implies, e1]
    refine ⟨fun _ => ?_, fun q => absurd (by omega) q⟩
    exact L3 S' f g1 g2
  · intro S' f g1 g2
    have e1 : S'.1 30 0 1 = nI (jz s 1) := by rw [f.s 30 (by decide)]; exact w1
    have e47 : S'.1 47 0 q0 = s (475 + q0) := by rw [f.s 47 (by decide)]; exact hv q0 hq0
    apply jb_St_crashCopy_1
    simp (disch := first | omega | decide) only [jaU_eq, jaU_U, nI_add, pk_mul, jaIx_nI, vp_inT, true_and, and_true, ↓jaO0, ↓jaO1, nI_z, nI_z2, nI_z3, nI_z4, nI_z5, nI_lt', nI_le', nI_eq', jaUI_at, jaPt_eq, jaPt_ne, jaUI_o, jaUI_2, jaUL_at, jaUL_o, jaUL_1, jaB_z, jaB_1, ↓jaB_01, Classical.not_not, and_self, true_or, or_true, nI_11, Nat.reduceEqDiff, Nat.reduceAdd, Nat.reduceMul, Nat.add_zero, Nat.zero_add, Nat.mul_zero, not_true_eq_false, not_false_eq_true, false_implies, true_implies, e1, e47]
    refine ⟨fun q => absurd q (by omega), fun _ => ?_⟩
    refine ih _ (f.ui (by decide)) (fun c' hc' => ?_) (fun q hq => ?_)
    · rw [jaUI_c hc', jaUI_o (by decide)]; exact g1 c' hc'
    · rw [jaUI_at]
      by_cases e : q = q0
      · rw [e, jaPt_eq]
      · rw [jaPt_ne e]; exact g2 q (by omega)
end
