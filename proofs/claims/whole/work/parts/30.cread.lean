section
set_option maxHeartbeats 2000000 in
theorem sp_Sc_readsOf {D : Nat} (hD : 2 ≤ D) {kk : Int32 → jaT → Prop} {σ : jaT} {S : jaS} {d e : jvA} {k n id K : Nat} (hR : jRt S d n) (hn : n < 24) (hw : jWn K d n) (hK : K ≤ 10) (hid : id < 64) (hfe : ∀ j, j < jz d (133 * n + 2) → S.1 67 0 (4 * id + j) = e (9 * id + 5 + j)) (hfl : ∀ j, j < jz d (133 * n + 2) → e (9 * id + 5 + j) = nI (jz e (9 * id + 5 + j)) ∧ jz e (9 * id + 5 + j) < K)
    (h : kk (jvRs d e id (133 * n) (jz d (133 * n + 1))) (jaU σ k S)) : jaDe D jy_Sc_readsOf [jcSc k, .inl (nI n), .inr (.inr (67, k, 0)), .inl (nI (4 * id))] (jaU σ k S) (jaKi kk) := by
  obtain ⟨D, rfl, hD⟩ := jaSuc hD
  obtain ⟨hk1, hd0, ⟨hd1, hd1'⟩, ⟨hd2, hd2'⟩, hda, hds⟩ := hw
  obtain ⟨r0, r1, r2, r3, r4⟩ := hR
  have hfe' : ∀ j, j < jz d (133 * n + 2) → (jaU σ k S k).1 67 0 (4 * id + j) = e (9 * id + 5 + j) := fun j hj => by
    rw [jaU_eq]
    exact hfe j hj
  apply js_Sc_readsOf
  refine jaFor (C := fun j => jc_Sc_readsOf_1 D kk k (nI n) k (nI (4 * id)) (jvRa d (133 * n) j) (nI j) (jaU σ k S)) (N := jz d (133 * n + 2)) ?_ (fun j hj ih => ?_)
  · apply jb_Sc_readsOf_1
    simp (disch := first | omega | decide) only [jaU_eq, jaU_U, nI_add, pk_mul, jaIx_nI, vp_inT, true_and, and_true, ↓jaO0, ↓jaO1, nI_z, nI_z2, nI_z3, nI_z4, nI_z5, nI_lt', nI_le', nI_eq', jaUI_at, jaPt_eq, jaPt_ne, jaUI_o, jaUI_2, jaUL_at, jaUL_o, jaUL_1, jaB_z, jaB_1, ↓jaB_01, Classical.not_not, and_self, true_or, or_true, nI_11, Nat.reduceEqDiff, Nat.reduceAdd, Nat.reduceMul, Nat.add_zero, Nat.zero_add, Nat.mul_zero, not_true_eq_false, not_false_eq_true, false_implies, true_implies, r2]
    rw [hd2]
    simp (disch := first | omega | decide) only [jaU_eq, jaU_U, nI_add, pk_mul, jaIx_nI, vp_inT, true_and, and_true, ↓jaO0, ↓jaO1, nI_z, nI_z2, nI_z3, nI_z4, nI_z5, nI_lt', nI_le', nI_eq', jaUI_at, jaPt_eq, jaPt_ne, jaUI_o, jaUI_2, jaUL_at, jaUL_o, jaUL_1, jaB_z, jaB_1, ↓jaB_01, Classical.not_not, and_self, true_or, or_true, nI_11, Nat.reduceEqDiff, Nat.reduceAdd, Nat.reduceMul, Nat.add_zero, Nat.zero_add, Nat.mul_zero, not_true_eq_false, not_false_eq_true, false_implies, true_implies]
    refine ⟨fun _ => ?_, fun q => absurd (by omega) q⟩
    refine jaFor (C := fun i => ∀ u6 u7 u8, jc_Sc_readsOf_3 D kk k (nI n) k (nI (4 * id)) (jvRs d e id (133 * n) i) (nI i) u6 u7 u8 (jaU σ k S)) (N := jz d (133 * n + 1)) ?_ (fun i hi ih => ?_) none none none
    · intro u6 u7 u8
      apply jb_Sc_readsOf_3
      simp (disch := first | omega | decide) only [jaU_eq, jaU_U, nI_add, pk_mul, jaIx_nI, vp_inT, true_and, and_true, ↓jaO0, ↓jaO1, nI_z, nI_z2, nI_z3, nI_z4, nI_z5, nI_lt', nI_le', nI_eq', jaUI_at, jaPt_eq, jaPt_ne, jaUI_o, jaUI_2, jaUL_at, jaUL_o, jaUL_1, jaB_z, jaB_1, ↓jaB_01, Classical.not_not, and_self, true_or, or_true, nI_11, Nat.reduceEqDiff, Nat.reduceAdd, Nat.reduceMul, Nat.add_zero, Nat.zero_add, Nat.mul_zero, not_true_eq_false, not_false_eq_true, false_implies, true_implies, r1]
      rw [hd1]
      simp (disch := first | omega | decide) only [jaU_eq, jaU_U, nI_add, pk_mul, jaIx_nI, vp_inT, true_and, and_true, ↓jaO0, ↓jaO1, nI_z, nI_z2, nI_z3, nI_z4, nI_z5, nI_lt', nI_le', nI_eq', jaUI_at, jaPt_eq, jaPt_ne, jaUI_o, jaUI_2, jaUL_at, jaUL_o, jaUL_1, jaB_z, jaB_1, ↓jaB_01, Classical.not_not, and_self, true_or, or_true, nI_11, Nat.reduceEqDiff, Nat.reduceAdd, Nat.reduceMul, Nat.add_zero, Nat.zero_add, Nat.mul_zero, not_true_eq_false, not_false_eq_true, false_implies, true_implies]
      refine ⟨fun _ => ?_, fun q => absurd (by omega) q⟩
      exact h
    · intro u6 u7 u8
      obtain ⟨t0, t1, t3, ⟨t4, t4'⟩, t5⟩ := hds i hi
      obtain ⟨c0, c1, c2, c3⟩ := r4 i hi
      obtain ⟨z, hz, hz2⟩ := jvKey_n t1 hfl hd2'
      have hst : jvRs d e id (133 * n) (i + 1) = jvRt d e id (133 * n + 7 + 21 * i) (jaIf1 (d (133 * n + 7 + 21 * i) = 0) (jvRs d e id (133 * n) i) (jvRs d e id (133 * n) i ||| jaMk (jvKey d e id (133 * n + 7 + 21 * i + 1)))) (jz d (133 * n + 7 + 21 * i + 4)) := rfl
      rw [hst, hz2] at ih
      have L5 : ∀ r x7, r = jaIf1 (d (133 * n + 7 + 21 * i) = 0) (jvRs d e id (133 * n) i) (jvRs d e id (133 * n) i ||| jaMk (nI z)) → jc_Sc_readsOf_5 D kk k (nI n) k (nI (4 * id)) r (nI i) (nI (42 * n + 7 * i)) x7 (nI 0) (jaU σ k S) := by
        intro r x7 hr
        rw [← hr] at ih
        refine jaFor (C := fun x => ∀ x7, jc_Sc_readsOf_5 D kk k (nI n) k (nI (4 * id)) (jvRt d e id (133 * n + 7 + 21 * i) r x) (nI i) (nI (42 * n + 7 * i)) x7 (nI x) (jaU σ k S)) (N := jz d (133 * n + 7 + 21 * i + 4)) ?_ (fun x hx ih5 => ?_) x7
        · intro x7
          apply jb_Sc_readsOf_5
          simp (disch := first | omega | decide) only [jaU_eq, jaU_U, nI_add, pk_mul, jaIx_nI, vp_inT, true_and, and_true, ↓jaO0, ↓jaO1, nI_z, nI_z2, nI_z3, nI_z4, nI_z5, nI_lt', nI_le', nI_eq', jaUI_at, jaPt_eq, jaPt_ne, jaUI_o, jaUI_2, jaUL_at, jaUL_o, jaUL_1, jaB_z, jaB_1, ↓jaB_01, Classical.not_not, and_self, true_or, or_true, nI_11, Nat.reduceEqDiff, Nat.reduceAdd, Nat.reduceMul, Nat.add_zero, Nat.zero_add, Nat.mul_zero, not_true_eq_false, not_false_eq_true, false_implies, true_implies, c2]
          rw [t4]
          simp (disch := first | omega | decide) only [jaU_eq, jaU_U, nI_add, pk_mul, jaIx_nI, vp_inT, true_and, and_true, ↓jaO0, ↓jaO1, nI_z, nI_z2, nI_z3, nI_z4, nI_z5, nI_lt', nI_le', nI_eq', jaUI_at, jaPt_eq, jaPt_ne, jaUI_o, jaUI_2, jaUL_at, jaUL_o, jaUL_1, jaB_z, jaB_1, ↓jaB_01, Classical.not_not, and_self, true_or, or_true, nI_11, Nat.reduceEqDiff, Nat.reduceAdd, Nat.reduceMul, Nat.add_zero, Nat.zero_add, Nat.mul_zero, not_true_eq_false, not_false_eq_true, false_implies, true_implies]
          refine ⟨fun _ => ?_, fun q => absurd (by omega) q⟩
          exact ih _ _ _
        · intro x7
          apply jb_Sc_readsOf_5
          simp (disch := first | omega | decide) only [jaU_eq, jaU_U, nI_add, pk_mul, jaIx_nI, vp_inT, true_and, and_true, ↓jaO0, ↓jaO1, nI_z, nI_z2, nI_z3, nI_z4, nI_z5, nI_lt', nI_le', nI_eq', jaUI_at, jaPt_eq, jaPt_ne, jaUI_o, jaUI_2, jaUL_at, jaUL_o, jaUL_1, jaB_z, jaB_1, ↓jaB_01, Classical.not_not, and_self, true_or, or_true, nI_11, Nat.reduceEqDiff, Nat.reduceAdd, Nat.reduceMul, Nat.add_zero, Nat.zero_add, Nat.mul_zero, not_true_eq_false, not_false_eq_true, false_implies, true_implies, c2, c3]
          rw [t4]
          simp (disch := first | omega | decide) only [jaU_eq, jaU_U, nI_add, pk_mul, jaIx_nI, vp_inT, true_and, and_true, ↓jaO0, ↓jaO1, nI_z, nI_z2, nI_z3, nI_z4, nI_z5, nI_lt', nI_le', nI_eq', jaUI_at, jaPt_eq, jaPt_ne, jaUI_o, jaUI_2, jaUL_at, jaUL_o, jaUL_1, jaB_z, jaB_1, ↓jaB_01, Classical.not_not, and_self, true_or, or_true, nI_11, Nat.reduceEqDiff, Nat.reduceAdd, Nat.reduceMul, Nat.add_zero, Nat.zero_add, Nat.mul_zero, not_true_eq_false, not_false_eq_true, false_implies, true_implies]
          refine ⟨fun q => absurd q (by omega), fun _ => ?_⟩
          have hst2 : jvRt d e id (133 * n + 7 + 21 * i) r (x + 1) = jaIf1 (d (133 * n + 7 + 21 * i + 5 + 4 * x) = nI 1) (jvRt d e id (133 * n + 7 + 21 * i) r x ||| jaMk (jvKey d e id (133 * n + 7 + 21 * i + 6 + 4 * x))) (jvRt d e id (133 * n + 7 + 21 * i) r x) := rfl
          rw [hst2] at ih5
          refine sp_Sc_keyOf_t (by omega) (jcTm_or _ _) hid (t5 x hx) hd2' hK hfe' (fun q1 q2 => ?_) (fun q1 => ?_)
          · rw [jaIf1_f (by rw [q1]; decide)] at ih5
            exact ⟨fun _ => ih5 _, fun q => absurd (by decide) q⟩
          · rw [jaIf1_t q1] at ih5
            have hf2 : jWf K (jz d (133 * n + 2)) d (133 * n + 7 + 21 * i + 5 + 4 * x + 1) := by
              rcases (t5 x hx).1 with z | z
              · rw [q1] at z
                exact absurd z.1 (by decide)
              · exact z.2
            obtain ⟨y, hy, hy2⟩ := jvKey_n hf2 hfl hd2'
            rw [show 133 * n + 7 + 21 * i + 6 + 4 * x = 133 * n + 7 + 21 * i + 5 + 4 * x + 1 by omega, hy2] at ih5
            rw [hy2]
            simp (disch := first | omega | decide) only [jaU_eq, jaU_U, nI_add, pk_mul, jaIx_nI, vp_inT, true_and, and_true, ↓jaO0, ↓jaO1, nI_z, nI_z2, nI_z3, nI_z4, nI_z5, nI_lt', nI_le', nI_eq', jaUI_at, jaPt_eq, jaPt_ne, jaUI_o, jaUI_2, jaUL_at, jaUL_o, jaUL_1, jaB_z, jaB_1, ↓jaB_01, Classical.not_not, and_self, true_or, or_true, nI_11, Nat.reduceEqDiff, Nat.reduceAdd, Nat.reduceMul, Nat.add_zero, Nat.zero_add, Nat.mul_zero, not_true_eq_false, not_false_eq_true, false_implies, true_implies]
            exact ih5 _
      apply jb_Sc_readsOf_3
      simp (disch := first | omega | decide) only [jaU_eq, jaU_U, nI_add, pk_mul, jaIx_nI, vp_inT, true_and, and_true, ↓jaO0, ↓jaO1, nI_z, nI_z2, nI_z3, nI_z4, nI_z5, nI_lt', nI_le', nI_eq', jaUI_at, jaPt_eq, jaPt_ne, jaUI_o, jaUI_2, jaUL_at, jaUL_o, jaUL_1, jaB_z, jaB_1, ↓jaB_01, Classical.not_not, and_self, true_or, or_true, nI_11, Nat.reduceEqDiff, Nat.reduceAdd, Nat.reduceMul, Nat.add_zero, Nat.zero_add, Nat.mul_zero, not_true_eq_false, not_false_eq_true, false_implies, true_implies, r1, jcIx, c1]
      rw [hd1]
      simp (disch := first | omega | decide) only [jaU_eq, jaU_U, nI_add, pk_mul, jaIx_nI, vp_inT, true_and, and_true, ↓jaO0, ↓jaO1, nI_z, nI_z2, nI_z3, nI_z4, nI_z5, nI_lt', nI_le', nI_eq', jaUI_at, jaPt_eq, jaPt_ne, jaUI_o, jaUI_2, jaUL_at, jaUL_o, jaUL_1, jaB_z, jaB_1, ↓jaB_01, Classical.not_not, and_self, true_or, or_true, nI_11, Nat.reduceEqDiff, Nat.reduceAdd, Nat.reduceMul, Nat.add_zero, Nat.zero_add, Nat.mul_zero, not_true_eq_false, not_false_eq_true, false_implies, true_implies]
      refine ⟨fun q => absurd q (by omega), fun _ => ?_⟩
      refine sp_Sc_keyOf_r (by omega) (Or.inl rfl) hid t1 hd2' hK hfe' ?_
      rw [hz2]
      simp (disch := first | omega | decide) only [jaU_eq, jaU_U, nI_add, pk_mul, jaIx_nI, vp_inT, true_and, and_true, ↓jaO0, ↓jaO1, nI_z, nI_z2, nI_z3, nI_z4, nI_z5, nI_lt', nI_le', nI_eq', jaUI_at, jaPt_eq, jaPt_ne, jaUI_o, jaUI_2, jaUL_at, jaUL_o, jaUL_1, jaB_z, jaB_1, ↓jaB_01, Classical.not_not, and_self, true_or, or_true, nI_11, Nat.reduceEqDiff, Nat.reduceAdd, Nat.reduceMul, Nat.add_zero, Nat.zero_add, Nat.mul_zero, not_true_eq_false, not_false_eq_true, false_implies, true_implies, c0]
      rcases t0 with t0 | t0
      · have z1 := L5 _ (nI z) rfl
        rw [jaIf1_t (by rw [t0]; decide)] at z1
        rw [t0, jaIf1_f (by decide)]
        simp (disch := first | omega | decide) only [jaU_eq, jaU_U, nI_add, pk_mul, jaIx_nI, vp_inT, true_and, and_true, ↓jaO0, ↓jaO1, nI_z, nI_z2, nI_z3, nI_z4, nI_z5, nI_lt', nI_le', nI_eq', jaUI_at, jaPt_eq, jaPt_ne, jaUI_o, jaUI_2, jaUL_at, jaUL_o, jaUL_1, jaB_z, jaB_1, ↓jaB_01, Classical.not_not, and_self, true_or, or_true, nI_11, Nat.reduceEqDiff, Nat.reduceAdd, Nat.reduceMul, Nat.add_zero, Nat.zero_add, Nat.mul_zero, not_true_eq_false, not_false_eq_true, false_implies, true_implies]
        exact z1
      · have z1 := L5 _ (nI z) rfl
        rw [jaIf1_f (by rw [t0]; decide)] at z1
        rw [t0, jaIf1_t rfl, t3.1]
        simp (disch := first | omega | decide) only [jaU_eq, jaU_U, nI_add, pk_mul, jaIx_nI, vp_inT, true_and, and_true, ↓jaO0, ↓jaO1, nI_z, nI_z2, nI_z3, nI_z4, nI_z5, nI_lt', nI_le', nI_eq', jaUI_at, jaPt_eq, jaPt_ne, jaUI_o, jaUI_2, jaUL_at, jaUL_o, jaUL_1, jaB_z, jaB_1, ↓jaB_01, Classical.not_not, and_self, true_or, or_true, nI_11, Nat.reduceEqDiff, Nat.reduceAdd, Nat.reduceMul, Nat.add_zero, Nat.zero_add, Nat.mul_zero, not_true_eq_false, not_false_eq_true, false_implies, true_implies]
        refine ⟨fun q => absurd q (by omega), fun _ => z1⟩
  · obtain ⟨a1, a2⟩ := hda j hj
    have e1 := r3 j hj
    apply jb_Sc_readsOf_1
    simp (disch := first | omega | decide) only [jaU_eq, jaU_U, nI_add, pk_mul, jaIx_nI, vp_inT, true_and, and_true, ↓jaO0, ↓jaO1, nI_z, nI_z2, nI_z3, nI_z4, nI_z5, nI_lt', nI_le', nI_eq', jaUI_at, jaPt_eq, jaPt_ne, jaUI_o, jaUI_2, jaUL_at, jaUL_o, jaUL_1, jaB_z, jaB_1, ↓jaB_01, Classical.not_not, and_self, true_or, or_true, nI_11, Nat.reduceEqDiff, Nat.reduceAdd, Nat.reduceMul, Nat.add_zero, Nat.zero_add, Nat.mul_zero, not_true_eq_false, not_false_eq_true, false_implies, true_implies, r2]
    rw [hd2]
    simp (disch := first | omega | decide) only [jaU_eq, jaU_U, nI_add, pk_mul, jaIx_nI, vp_inT, true_and, and_true, ↓jaO0, ↓jaO1, nI_z, nI_z2, nI_z3, nI_z4, nI_z5, nI_lt', nI_le', nI_eq', jaUI_at, jaPt_eq, jaPt_ne, jaUI_o, jaUI_2, jaUL_at, jaUL_o, jaUL_1, jaB_z, jaB_1, ↓jaB_01, Classical.not_not, and_self, true_or, or_true, nI_11, Nat.reduceEqDiff, Nat.reduceAdd, Nat.reduceMul, Nat.add_zero, Nat.zero_add, Nat.mul_zero, not_true_eq_false, not_false_eq_true, false_implies, true_implies]
    refine ⟨fun q => absurd q (by omega), fun _ => ?_⟩
    rw [show n * 4 + j = 4 * n + j by omega, e1]
    exact ih
theorem jaSg (y : Int32) : 0 ≤ y ↔ bt y 31 = false := by
  have h1 := BitVec.msb_eq_toInt (x := y.toBitVec)
  rw [BitVec.msb_eq_getLsbD_last] at h1
  have h1 : bt y 31 = decide (y.toInt < 0) := h1
  rw [h1, Int32.le_iff_toInt_le, show (0 : Int32).toInt = 0 from rfl, decide_eq_false_iff_not]
  omega
theorem sp_JM_floorMod {D : Nat} (hD : 1 ≤ D) {kk : Int32 → jaT → Prop} {σ : jaT} {x : Int32} {K : Nat} (h1 : 1 ≤ K) (h2 : K ≤ 10) (h : kk (jvMod x (nI K)) σ) : jaDe D jy_JM_floorMod [.inl x, .inl (nI K)] σ (jaKi kk) := by
  obtain ⟨D, rfl, hD⟩ := jaSuc hD
  have hK : (nI K).toInt = (K : Int) := nI_toInt (by omega)
  have hr := rem_toInt x (nI K)
  rw [hK] at hr
  have hs : (0 ≤ x ^^^ nI K) ↔ 0 ≤ x := by
    rw [jaSg, jaSg, b_xor, (jaSg _).mp (nI_pos' (n := K) (by omega)), Bool.xor_false]
  have hx : (0 ≤ x) ↔ 0 ≤ x.toInt := by
    rw [Int32.le_iff_toInt_le]
    exact Iff.rfl
  have hq : ∀ r : Int32, (0 ≤ r) ↔ 0 ≤ r.toInt := fun r => by
    rw [Int32.le_iff_toInt_le]
    exact Iff.rfl
  have hp := Int.tmod_nonneg (K : Int) (a := x.toInt)
  have hn := Int.tmod_nonneg (K : Int) (a := -x.toInt)
  rw [Int.neg_tmod] at hn
  unfold jvMod at h
  apply js_JM_floorMod
  generalize x - x / nI K * nI K = r at *
  refine ⟨nI_ne0 h1 (by omega), fun q => ?_, fun q => ⟨fun q2 => ?_, fun q2 => ?_⟩⟩
  · rw [hs, hx] at q
    have := hp q
    rwa [jaIf1_t ((hq r).mpr (by omega))] at h
  · rwa [jaIf1_t (by rw [q2]; decide)] at h
  · rw [hs, hx] at q
    have := hn (by omega)
    have hr0 : ¬ r.toInt = 0 := fun z => q2 (Int32.toInt_inj.mp (by rw [z]; rfl))
    rwa [jaIf1_f (fun z => by have := (hq r).mp z; omega)] at h
theorem sp_Sc_keyAt_51 {D : Nat} (hD : 2 ≤ D) {kk : Int32 → jaT → Prop} {σ : jaT} {S : jaS} {d : jvA} {k n j c K : Nat} (hR : jRt S d n) (hn : n < 24) (hw : jWn K d n) (hK : K ≤ 10) (hj : j < jz d (133 * n + 2)) (h : kk (jvMod (S.1 51 c (jz d (133 * n + 3 + j))) (nI K)) (jaU σ k S)) :
    jaDe D jy_Sc_keyAt [jcSc k, .inl (nI n), .inl (nI j), .inr (.inr (51, k, c)), .inl (nI K)] (jaU σ k S) (jaKi kk) := by
  obtain ⟨D, rfl, hD⟩ := jaSuc hD
  obtain ⟨hk1, hd0, hd1, ⟨hd2, hd2'⟩, hda, hds⟩ := hw
  obtain ⟨a1, a2⟩ := hda j hj
  have e1 := hR.2.2.2.1 j hj
  apply js_Sc_keyAt_51
  simp (disch := first | omega | decide) only [jaU_eq, jaU_U, nI_add, pk_mul, jaIx_nI, vp_inT, true_and, and_true, ↓jaO0, ↓jaO1, nI_z, nI_z2, nI_z3, nI_z4, nI_z5, nI_lt', nI_le', nI_eq', jaUI_at, jaPt_eq, jaPt_ne, jaUI_o, jaUI_2, jaUL_at, jaUL_o, jaUL_1, jaB_z, jaB_1, ↓jaB_01, Classical.not_not, and_self, true_or, or_true, nI_11, Nat.reduceEqDiff, Nat.reduceAdd, Nat.reduceMul, Nat.add_zero, Nat.zero_add, Nat.mul_zero, not_true_eq_false, not_false_eq_true, false_implies, true_implies]
  rw [show n * 4 + j = 4 * n + j by omega, e1, a1]
  simp (disch := first | omega | decide) only [jaU_eq, jaU_U, nI_add, pk_mul, jaIx_nI, vp_inT, true_and, and_true, ↓jaO0, ↓jaO1, nI_z, nI_z2, nI_z3, nI_z4, nI_z5, nI_lt', nI_le', nI_eq', jaUI_at, jaPt_eq, jaPt_ne, jaUI_o, jaUI_2, jaUL_at, jaUL_o, jaUL_1, jaB_z, jaB_1, ↓jaB_01, Classical.not_not, and_self, true_or, or_true, nI_11, Nat.reduceEqDiff, Nat.reduceAdd, Nat.reduceMul, Nat.add_zero, Nat.zero_add, Nat.mul_zero, not_true_eq_false, not_false_eq_true, false_implies, true_implies]
  refine ⟨fun q => absurd q (by omega), fun _ => sp_JM_floorMod (by omega) hk1 hK h⟩
theorem sp_Sc_keyAt_43 {D : Nat} (hD : 2 ≤ D) {kk : Int32 → jaT → Prop} {σ : jaT} {S : jaS} {d : jvA} {k n j K : Nat} (hR : jRt S d n) (hn : n < 24) (hw : jWn K d n) (hK : K ≤ 10) (hj : j < jz d (133 * n + 2)) (h : kk (jvMod (S.1 43 0 (jz d (133 * n + 3 + j))) (nI K)) (jaU σ k S)) :
    jaDe D jy_Sc_keyAt [jcSc k, .inl (nI n), .inl (nI j), .inr (.inr (43, k, 0)), .inl (nI K)] (jaU σ k S) (jaKi kk) := by
  obtain ⟨D, rfl, hD⟩ := jaSuc hD
  obtain ⟨hk1, hd0, hd1, ⟨hd2, hd2'⟩, hda, hds⟩ := hw
  obtain ⟨a1, a2⟩ := hda j hj
  have e1 := hR.2.2.2.1 j hj
  apply js_Sc_keyAt_43
  simp (disch := first | omega | decide) only [jaU_eq, jaU_U, nI_add, pk_mul, jaIx_nI, vp_inT, true_and, and_true, ↓jaO0, ↓jaO1, nI_z, nI_z2, nI_z3, nI_z4, nI_z5, nI_lt', nI_le', nI_eq', jaUI_at, jaPt_eq, jaPt_ne, jaUI_o, jaUI_2, jaUL_at, jaUL_o, jaUL_1, jaB_z, jaB_1, ↓jaB_01, Classical.not_not, and_self, true_or, or_true, nI_11, Nat.reduceEqDiff, Nat.reduceAdd, Nat.reduceMul, Nat.add_zero, Nat.zero_add, Nat.mul_zero, not_true_eq_false, not_false_eq_true, false_implies, true_implies]
  rw [show n * 4 + j = 4 * n + j by omega, e1, a1]
  simp (disch := first | omega | decide) only [jaU_eq, jaU_U, nI_add, pk_mul, jaIx_nI, vp_inT, true_and, and_true, ↓jaO0, ↓jaO1, nI_z, nI_z2, nI_z3, nI_z4, nI_z5, nI_lt', nI_le', nI_eq', jaUI_at, jaPt_eq, jaPt_ne, jaUI_o, jaUI_2, jaUL_at, jaUL_o, jaUL_1, jaB_z, jaB_1, ↓jaB_01, Classical.not_not, and_self, true_or, or_true, nI_11, Nat.reduceEqDiff, Nat.reduceAdd, Nat.reduceMul, Nat.add_zero, Nat.zero_add, Nat.mul_zero, not_true_eq_false, not_false_eq_true, false_implies, true_implies]
  refine ⟨fun q => absurd q (by omega), fun _ => sp_JM_floorMod (by omega) hk1 hK h⟩
theorem sp_Sc_keyAt_18 {D : Nat} (hD : 2 ≤ D) {kk : Int32 → jaT → Prop} {σ : jaT} {S : jaS} {d : jvA} {k n j K : Nat} (hk0 : 0 ≠ k) (hR : jRt S d n) (hn : n < 24) (hw : jWn K d n) (hK : K ≤ 10) (hj : j < jz d (133 * n + 2)) (h : kk (jvMod ((σ 0).1 18 0 (jz d (133 * n + 3 + j))) (nI K)) (jaU σ k S)) :
    jaDe D jy_Sc_keyAt [jcSc k, .inl (nI n), .inl (nI j), .inr (.inr (18, 0, 0)), .inl (nI K)] (jaU σ k S) (jaKi kk) := by
  obtain ⟨D, rfl, hD⟩ := jaSuc hD
  obtain ⟨hk1, hd0, hd1, ⟨hd2, hd2'⟩, hda, hds⟩ := hw
  obtain ⟨a1, a2⟩ := hda j hj
  have e1 := hR.2.2.2.1 j hj
  apply js_Sc_keyAt_18
  simp (disch := first | omega | decide) only [jaU_eq, jaU_U, nI_add, pk_mul, jaIx_nI, vp_inT, true_and, and_true, ↓jaO0, ↓jaO1, nI_z, nI_z2, nI_z3, nI_z4, nI_z5, nI_lt', nI_le', nI_eq', jaUI_at, jaPt_eq, jaPt_ne, jaUI_o, jaUI_2, jaUL_at, jaUL_o, jaUL_1, jaB_z, jaB_1, ↓jaB_01, Classical.not_not, and_self, true_or, or_true, nI_11, Nat.reduceEqDiff, Nat.reduceAdd, Nat.reduceMul, Nat.add_zero, Nat.zero_add, Nat.mul_zero, not_true_eq_false, not_false_eq_true, false_implies, true_implies, jaU_ne hk0]
  rw [show n * 4 + j = 4 * n + j by omega, e1, a1]
  simp (disch := first | omega | decide) only [jaU_eq, jaU_U, nI_add, pk_mul, jaIx_nI, vp_inT, true_and, and_true, ↓jaO0, ↓jaO1, nI_z, nI_z2, nI_z3, nI_z4, nI_z5, nI_lt', nI_le', nI_eq', jaUI_at, jaPt_eq, jaPt_ne, jaUI_o, jaUI_2, jaUL_at, jaUL_o, jaUL_1, jaB_z, jaB_1, ↓jaB_01, Classical.not_not, and_self, true_or, or_true, nI_11, Nat.reduceEqDiff, Nat.reduceAdd, Nat.reduceMul, Nat.add_zero, Nat.zero_add, Nat.mul_zero, not_true_eq_false, not_false_eq_true, false_implies, true_implies, jaU_ne hk0]
  refine ⟨fun q => absurd q (by omega), fun _ => sp_JM_floorMod (by omega) hk1 hK h⟩
end
