section
/-! the reference: puts, crashes, what is kept beside -/
set_option maxHeartbeats 1000000 in
theorem sp_M_putsTrans {D : Nat} (hD : 4 ≤ D) {kk : jaT → Prop} {σ : jaT} {S : jaS} {s d e : jvA} (hs : S.1 72 0 = s) (hd : S.1 75 0 = d) (he : S.1 76 0 = e) (hW : jW s d e) (h24 : jz s 32 < 24) {x n : Nat} (hx : x < 3) (hn : n < jz s 32)
    (h : ∀ S', S'.1 72 0 = (jvPuts s d e (nI x) n).1 → S'.1 75 0 = (jvPuts s d e (nI x) n).2.1 → S'.1 76 0 = (jvPuts s d e (nI x) n).2.2 → jaFr [72, 75, 76] [] S S' → kk (jaU σ 20 S')) : jaDe D jy_M_putsTrans [jaMo, .inl (nI x), .inl (nI n)] (jaU σ 20 S) (jaKv kk) := by
  obtain ⟨D, rfl, hD⟩ := jaSuc hD
  have h32 := hW.o.many.1
  obtain ⟨w1, w2⟩ := jvPuts_W (x := nI x) hW h24 hn (by rw [jaIx_nI (by omega)]) (by rw [jaIx_nI (by omega)]; exact hx)
  apply js_M_putsTrans
  refine jaFor (C := fun k => ∀ S', S'.1 75 0 = jvCp d (133 * jz s 32) d (133 * n) k → jaFr [72, 75, 76] [] S S' → S'.1 72 0 = s → S'.1 76 0 = e → jc_M_putsTrans_1 D kk (nI x) (nI n) (nI k) (jaU σ 20 S')) (N := 133) ?_ (fun k hk ih => ?_) S (by rw [jvCp_0, hd]) jaFr.rfl hs he
  · intro S' a f hs' he'
    have hpd : jaPt (jvCp d (133 * jz s 32) d (133 * n) 133) (133 * jz s 32) (nI x) = jvPd d (jz s 32) n (nI x) := by
      funext j
      unfold jvPd
      by_cases q : j = 133 * jz s 32
      · rw [q, jaPt_eq, if_pos rfl]
      · rw [jaPt_ne q, if_neg q]
        by_cases q2 : 133 * jz s 32 < j ∧ j < 133 * jz s 32 + 133
        · rw [if_pos q2]
          show (if 133 * jz s 32 ≤ j ∧ j < 133 * jz s 32 + 133 then d (133 * n + (j - 133 * jz s 32)) else d j) = _
          rw [if_pos (by omega), Nat.add_comm]
        · rw [if_neg q2, jvCp_out (by omega)]
    apply jb_M_putsTrans_1
    simp (disch := first | omega | decide) only [jaU_eq, jaU_U, nI_add, pk_mul, jaIx_nI, vp_inT, true_and, and_true, ↓jaO0, ↓jaO1, nI_z, nI_z2, nI_z3, nI_z4, nI_z5, nI_lt', nI_le', nI_eq', jaUI_at, jaPt_eq, jaPt_ne, jaUI_o, jaUI_2, jaUL_at, jaUL_o, jaUL_1, jaB_z, jaB_1, ↓jaB_01, Classical.not_not, and_self, true_or, or_true, nI_11, Nat.reduceEqDiff, Nat.reduceAdd, Nat.reduceMul, Nat.add_zero, Nat.zero_add, Nat.mul_zero, not_true_eq_false, not_false_eq_true, false_implies, true_implies, hs', he']
    rw [h32]
    simp (disch := first | omega | decide) only [jaU_eq, jaU_U, nI_add, pk_mul, jaIx_nI, vp_inT, true_and, and_true, ↓jaO0, ↓jaO1, nI_z, nI_z2, nI_z3, nI_z4, nI_z5, nI_lt', nI_le', nI_eq', jaUI_at, jaPt_eq, jaPt_ne, jaUI_o, jaUI_2, jaUL_at, jaUL_o, jaUL_1, jaB_z, jaB_1, ↓jaB_01, Classical.not_not, and_self, true_or, or_true, nI_11, Nat.reduceEqDiff, Nat.reduceAdd, Nat.reduceMul, Nat.add_zero, Nat.zero_add, Nat.mul_zero, not_true_eq_false, not_false_eq_true, false_implies, true_implies, hs', nI_sub, Nat.add_sub_cancel]
    refine ⟨fun _ => ?_, fun q => absurd (by omega) q⟩
    unfold jvPuts at h w1
    simp only [] at h w1
    have e32 : jaPt s 32 (nI (jz s 32 + 1)) = jaPt s 32 (s 32 + nI 1) := by
      rw [h32]
      simp (disch := first | omega | decide) only [jaU_eq, jaU_U, nI_add, pk_mul, jaIx_nI, vp_inT, true_and, and_true, ↓jaO0, ↓jaO1, nI_z, nI_z2, nI_z3, nI_z4, nI_z5, nI_lt', nI_le', nI_eq', jaUI_at, jaPt_eq, jaPt_ne, jaUI_o, jaUI_2, jaUL_at, jaUL_o, jaUL_1, jaB_z, jaB_1, ↓jaB_01, Classical.not_not, and_self, true_or, or_true, nI_11, Nat.reduceEqDiff, Nat.reduceAdd, Nat.reduceMul, Nat.add_zero, Nat.zero_add, Nat.mul_zero, not_true_eq_false, not_false_eq_true, false_implies, true_implies]
    have q1 : (jaPt s 32 (s 32 + nI 1)) 1 = s 1 := jaPt_ne (by decide)
    have q33 : (jaPt s 32 (s 32 + nI 1)) 33 = s 33 := jaPt_ne (by decide)
    have q35 : (jaPt s 32 (s 32 + nI 1)) 35 = s 35 := jaPt_ne (by decide)
    have qw : jWw (jaPt s 32 (s 32 + nI 1)) := jWw_c (fun j hj => jaPt_ne (by omega)) hW.w
    refine sp_M_comes (s := jaPt s 32 (s 32 + nI 1)) (d := jvPd d (jz s 32) n (nI x)) (e := e) (by omega) ?_ ?_ ?_ qw h24 ?_ ?_ ?_ ?_ ?_ (fun S2 a2 b2 f2 => ?_)
    · simp (disch := first | omega | decide) only [jaU_eq, jaU_U, nI_add, pk_mul, jaIx_nI, vp_inT, true_and, and_true, ↓jaO0, ↓jaO1, nI_z, nI_z2, nI_z3, nI_z4, nI_z5, nI_lt', nI_le', nI_eq', jaUI_at, jaPt_eq, jaPt_ne, jaUI_o, jaUI_2, jaUL_at, jaUL_o, jaUL_1, jaB_z, jaB_1, ↓jaB_01, Classical.not_not, and_self, true_or, or_true, nI_11, Nat.reduceEqDiff, Nat.reduceAdd, Nat.reduceMul, Nat.add_zero, Nat.zero_add, Nat.mul_zero, not_true_eq_false, not_false_eq_true, false_implies, true_implies, hs']
      exact e32
    · simp (disch := first | omega | decide) only [jaU_eq, jaU_U, nI_add, pk_mul, jaIx_nI, vp_inT, true_and, and_true, ↓jaO0, ↓jaO1, nI_z, nI_z2, nI_z3, nI_z4, nI_z5, nI_lt', nI_le', nI_eq', jaUI_at, jaPt_eq, jaPt_ne, jaUI_o, jaUI_2, jaUL_at, jaUL_o, jaUL_1, jaB_z, jaB_1, ↓jaB_01, Classical.not_not, and_self, true_or, or_true, nI_11, Nat.reduceEqDiff, Nat.reduceAdd, Nat.reduceMul, Nat.add_zero, Nat.zero_add, Nat.mul_zero, not_true_eq_false, not_false_eq_true, false_implies, true_implies, a]
      exact hpd
    · simp (disch := first | omega | decide) only [jaU_eq, jaU_U, nI_add, pk_mul, jaIx_nI, vp_inT, true_and, and_true, ↓jaO0, ↓jaO1, nI_z, nI_z2, nI_z3, nI_z4, nI_z5, nI_lt', nI_le', nI_eq', jaUI_at, jaPt_eq, jaPt_ne, jaUI_o, jaUI_2, jaUL_at, jaUL_o, jaUL_1, jaB_z, jaB_1, ↓jaB_01, Classical.not_not, and_self, true_or, or_true, nI_11, Nat.reduceEqDiff, Nat.reduceAdd, Nat.reduceMul, Nat.add_zero, Nat.zero_add, Nat.mul_zero, not_true_eq_false, not_false_eq_true, false_implies, true_implies, he']
    · rw [jz_c q1]
      exact jWn_m (fun j h1 h2 => jvPd_new h1 h2) (by have z0 : jz (jvPd d (jz s 32) n (nI x)) (133 * jz s 32) = x := (congrArg jaIx jvPd_0).trans (jaIx_nI (by omega)); exact ⟨by rw [z0]; exact jvPd_0, by rw [z0]; exact hx⟩) (hW.d n hn)
    · rw [jz_c q33, q33]; exact hW.o.pool.1
    · rw [jz_c q33]; exact w2
    · rw [jz_c q35, q35]; exact hW.o.came.1
    · rw [jz_c q35]; have := hW.o.2.2.2.2.1; omega
    · refine h S2 a2 ?_ b2 ?_
      · rw [f2.s 75 (by decide) (by decide)]
        simp (disch := first | omega | decide) only [jaU_eq, jaU_U, nI_add, pk_mul, jaIx_nI, vp_inT, true_and, and_true, ↓jaO0, ↓jaO1, nI_z, nI_z2, nI_z3, nI_z4, nI_z5, nI_lt', nI_le', nI_eq', jaUI_at, jaPt_eq, jaPt_ne, jaUI_o, jaUI_2, jaUL_at, jaUL_o, jaUL_1, jaB_z, jaB_1, ↓jaB_01, Classical.not_not, and_self, true_or, or_true, nI_11, Nat.reduceEqDiff, Nat.reduceAdd, Nat.reduceMul, Nat.add_zero, Nat.zero_add, Nat.mul_zero, not_true_eq_false, not_false_eq_true, false_implies, true_implies, a]
        exact hpd
      · refine jaFr.trans ?_ (f2.mono (by decide) (by decide))
        (repeat' first | assumption | exact jaFr.rfl | refine jaFr.ui ?_ (by decide) (by decide) | refine jaFr.uf ?_ (by decide) | exact jaFr.mono (by assumption) (by decide) (by decide))
  · intro S' a f hs' he'
    apply jb_M_putsTrans_1
    simp (disch := first | omega | decide) only [jaU_eq, jaU_U, nI_add, pk_mul, jaIx_nI, vp_inT, true_and, and_true, ↓jaO0, ↓jaO1, nI_z, nI_z2, nI_z3, nI_z4, nI_z5, nI_lt', nI_le', nI_eq', jaUI_at, jaPt_eq, jaPt_ne, jaUI_o, jaUI_2, jaUL_at, jaUL_o, jaUL_1, jaB_z, jaB_1, ↓jaB_01, Classical.not_not, and_self, true_or, or_true, nI_11, Nat.reduceEqDiff, Nat.reduceAdd, Nat.reduceMul, Nat.add_zero, Nat.zero_add, Nat.mul_zero, not_true_eq_false, not_false_eq_true, false_implies, true_implies, hs']
    rw [h32]
    simp (disch := first | omega | decide) only [jaU_eq, jaU_U, nI_add, pk_mul, jaIx_nI, vp_inT, true_and, and_true, ↓jaO0, ↓jaO1, nI_z, nI_z2, nI_z3, nI_z4, nI_z5, nI_lt', nI_le', nI_eq', jaUI_at, jaPt_eq, jaPt_ne, jaUI_o, jaUI_2, jaUL_at, jaUL_o, jaUL_1, jaB_z, jaB_1, ↓jaB_01, Classical.not_not, and_self, true_or, or_true, nI_11, Nat.reduceEqDiff, Nat.reduceAdd, Nat.reduceMul, Nat.add_zero, Nat.zero_add, Nat.mul_zero, not_true_eq_false, not_false_eq_true, false_implies, true_implies]
    refine ⟨fun q => absurd q (by omega), fun _ => ?_⟩
    refine ih _ ?_ ?_ ?_ ?_
    · simp (disch := first | omega | decide) only [jaU_eq, jaU_U, nI_add, pk_mul, jaIx_nI, vp_inT, true_and, and_true, ↓jaO0, ↓jaO1, nI_z, nI_z2, nI_z3, nI_z4, nI_z5, nI_lt', nI_le', nI_eq', jaUI_at, jaPt_eq, jaPt_ne, jaUI_o, jaUI_2, jaUL_at, jaUL_o, jaUL_1, jaB_z, jaB_1, ↓jaB_01, Classical.not_not, and_self, true_or, or_true, nI_11, Nat.reduceEqDiff, Nat.reduceAdd, Nat.reduceMul, Nat.add_zero, Nat.zero_add, Nat.mul_zero, not_true_eq_false, not_false_eq_true, false_implies, true_implies, a]
      rw [jvCp_s, jvCp_out (show 133 * n + k < 133 * jz s 32 ∨ _ from Or.inl (by omega))]
    · (repeat' first | assumption | exact jaFr.rfl | refine jaFr.ui ?_ (by decide) (by decide) | refine jaFr.uf ?_ (by decide) | exact jaFr.mono (by assumption) (by decide) (by decide))
    · simp (disch := first | omega | decide) only [jaU_eq, jaU_U, nI_add, pk_mul, jaIx_nI, vp_inT, true_and, and_true, ↓jaO0, ↓jaO1, nI_z, nI_z2, nI_z3, nI_z4, nI_z5, nI_lt', nI_le', nI_eq', jaUI_at, jaPt_eq, jaPt_ne, jaUI_o, jaUI_2, jaUL_at, jaUL_o, jaUL_1, jaB_z, jaB_1, ↓jaB_01, Classical.not_not, and_self, true_or, or_true, nI_11, Nat.reduceEqDiff, Nat.reduceAdd, Nat.reduceMul, Nat.add_zero, Nat.zero_add, Nat.mul_zero, not_true_eq_false, not_false_eq_true, false_implies, true_implies, hs']
    · simp (disch := first | omega | decide) only [jaU_eq, jaU_U, nI_add, pk_mul, jaIx_nI, vp_inT, true_and, and_true, ↓jaO0, ↓jaO1, nI_z, nI_z2, nI_z3, nI_z4, nI_z5, nI_lt', nI_le', nI_eq', jaUI_at, jaPt_eq, jaPt_ne, jaUI_o, jaUI_2, jaUL_at, jaUL_o, jaUL_1, jaB_z, jaB_1, ↓jaB_01, Classical.not_not, and_self, true_or, or_true, nI_11, Nat.reduceEqDiff, Nat.reduceAdd, Nat.reduceMul, Nat.add_zero, Nat.zero_add, Nat.mul_zero, not_true_eq_false, not_false_eq_true, false_implies, true_implies, he']
set_option maxHeartbeats 1000000 in
theorem sp_M_crashes {D : Nat} (hD : 2 ≤ D) {kk : jaT → Prop} {σ : jaT} {S : jaS} {s : jvA} (hs : S.1 72 0 = s) {c : Nat} (hc : c < 3) (h : ∀ S', S'.1 72 0 = jvCr s c → jaFr [72] [] S S' → kk (jaU σ 20 S')) : jaDe D jy_M_crashes [jaMo, .inl (nI c)] (jaU σ 20 S) (jaKv kk) := by
  obtain ⟨D, rfl, hD⟩ := jaSuc hD
  have L2 : ∀ S', S'.1 72 0 = jvC0 s c → jaFr [72] [] S S' → jc_M_crashes_2 D kk (nI c) (nI 0) (jaU σ 20 S') := by
    intro S0 a0 f0
    have hr : jvCr s c = jvCr2 c (jvCr1 c (jvC0 s c) 10) 40 := rfl
    rw [hr] at h
    generalize jvC0 s c = t at *
    refine jaFor (C := fun k => ∀ S', S'.1 72 0 = jvCr1 c t k → jaFr [72] [] S S' → jc_M_crashes_2 D kk (nI c) (nI k) (jaU σ 20 S')) (N := 10) ?_ (fun k hk ih => ?_) S0 a0 f0
    · intro S' a f
      apply jb_M_crashes_2
      simp (disch := first | omega | decide) only [jaU_eq, jaU_U, nI_add, pk_mul, jaIx_nI, vp_inT, true_and, and_true, ↓jaO0, ↓jaO1, nI_z, nI_z2, nI_z3, nI_z4, nI_z5, nI_lt', nI_le', nI_eq', jaUI_at, jaPt_eq, jaPt_ne, jaUI_o, jaUI_2, jaUL_at, jaUL_o, jaUL_1, jaB_z, jaB_1, ↓jaB_01, Classical.not_not, and_self, true_or, or_true, nI_11, Nat.reduceEqDiff, Nat.reduceAdd, Nat.reduceMul, Nat.add_zero, Nat.zero_add, Nat.mul_zero, not_true_eq_false, not_false_eq_true, false_implies, true_implies]
      refine ⟨fun _ => ?_, fun q => absurd (by omega) q⟩
      generalize jvCr1 c t 10 = t2 at *
      refine jaFor (C := fun k => ∀ S', S'.1 72 0 = jvCr2 c t2 k → jaFr [72] [] S S' → jc_M_crashes_4 D kk (nI c) (nI k) (jaU σ 20 S')) (N := 40) ?_ (fun k hk ih => ?_) S' a f
      · intro S2 a2 f2
        apply jb_M_crashes_4
        simp (disch := first | omega | decide) only [jaU_eq, jaU_U, nI_add, pk_mul, jaIx_nI, vp_inT, true_and, and_true, ↓jaO0, ↓jaO1, nI_z, nI_z2, nI_z3, nI_z4, nI_z5, nI_lt', nI_le', nI_eq', jaUI_at, jaPt_eq, jaPt_ne, jaUI_o, jaUI_2, jaUL_at, jaUL_o, jaUL_1, jaB_z, jaB_1, ↓jaB_01, Classical.not_not, and_self, true_or, or_true, nI_11, Nat.reduceEqDiff, Nat.reduceAdd, Nat.reduceMul, Nat.add_zero, Nat.zero_add, Nat.mul_zero, not_true_eq_false, not_false_eq_true, false_implies, true_implies]
        refine ⟨fun _ => ?_, fun q => absurd (by omega) q⟩
        exact h S2 a2 f2
      · intro S2 a2 f2
        have hst : jvCr2 c t2 (k + 1) = jaPt (jaPt (jvCr2 c t2 k) (175 + 40 * c + k) (jaIf1 (jvCr2 c t2 k 40 ≤ nI k) (nI 0) (jvCr2 c t2 k (485 + k)))) (295 + 40 * c + k) (nI 0) := rfl
        rw [hst] at ih
        apply jb_M_crashes_4
        simp (disch := first | omega | decide) only [jaU_eq, jaU_U, nI_add, pk_mul, jaIx_nI, vp_inT, true_and, and_true, ↓jaO0, ↓jaO1, nI_z, nI_z2, nI_z3, nI_z4, nI_z5, nI_lt', nI_le', nI_eq', jaUI_at, jaPt_eq, jaPt_ne, jaUI_o, jaUI_2, jaUL_at, jaUL_o, jaUL_1, jaB_z, jaB_1, ↓jaB_01, Classical.not_not, and_self, true_or, or_true, nI_11, Nat.reduceEqDiff, Nat.reduceAdd, Nat.reduceMul, Nat.add_zero, Nat.zero_add, Nat.mul_zero, not_true_eq_false, not_false_eq_true, false_implies, true_implies, a2]
        refine ⟨fun q => absurd q (by omega), fun _ => ?_⟩
        refine ⟨fun q => ?_, fun q => ?_⟩
        · rw [jaIf1_t q] at ih
          refine ih _ ?_ ?_
          · simp (disch := first | omega | decide) only [jaU_eq, jaU_U, nI_add, pk_mul, jaIx_nI, vp_inT, true_and, and_true, ↓jaO0, ↓jaO1, nI_z, nI_z2, nI_z3, nI_z4, nI_z5, nI_lt', nI_le', nI_eq', jaUI_at, jaPt_eq, jaPt_ne, jaUI_o, jaUI_2, jaUL_at, jaUL_o, jaUL_1, jaB_z, jaB_1, ↓jaB_01, Classical.not_not, and_self, true_or, or_true, nI_11, Nat.reduceEqDiff, Nat.reduceAdd, Nat.reduceMul, Nat.add_zero, Nat.zero_add, Nat.mul_zero, not_true_eq_false, not_false_eq_true, false_implies, true_implies, a2]
          · (repeat' first | assumption | exact jaFr.rfl | refine jaFr.ui ?_ (by decide) (by decide) | refine jaFr.uf ?_ (by decide) | exact jaFr.mono (by assumption) (by decide) (by decide))
        · rw [jaIf1_f q] at ih
          refine ih _ ?_ ?_
          · simp (disch := first | omega | decide) only [jaU_eq, jaU_U, nI_add, pk_mul, jaIx_nI, vp_inT, true_and, and_true, ↓jaO0, ↓jaO1, nI_z, nI_z2, nI_z3, nI_z4, nI_z5, nI_lt', nI_le', nI_eq', jaUI_at, jaPt_eq, jaPt_ne, jaUI_o, jaUI_2, jaUL_at, jaUL_o, jaUL_1, jaB_z, jaB_1, ↓jaB_01, Classical.not_not, and_self, true_or, or_true, nI_11, Nat.reduceEqDiff, Nat.reduceAdd, Nat.reduceMul, Nat.add_zero, Nat.zero_add, Nat.mul_zero, not_true_eq_false, not_false_eq_true, false_implies, true_implies, a2]
          · (repeat' first | assumption | exact jaFr.rfl | refine jaFr.ui ?_ (by decide) (by decide) | refine jaFr.uf ?_ (by decide) | exact jaFr.mono (by assumption) (by decide) (by decide))
    · intro S' a f
      apply jb_M_crashes_2
      simp (disch := first | omega | decide) only [jaU_eq, jaU_U, nI_add, pk_mul, jaIx_nI, vp_inT, true_and, and_true, ↓jaO0, ↓jaO1, nI_z, nI_z2, nI_z3, nI_z4, nI_z5, nI_lt', nI_le', nI_eq', jaUI_at, jaPt_eq, jaPt_ne, jaUI_o, jaUI_2, jaUL_at, jaUL_o, jaUL_1, jaB_z, jaB_1, ↓jaB_01, Classical.not_not, and_self, true_or, or_true, nI_11, Nat.reduceEqDiff, Nat.reduceAdd, Nat.reduceMul, Nat.add_zero, Nat.zero_add, Nat.mul_zero, not_true_eq_false, not_false_eq_true, false_implies, true_implies, a]
      refine ⟨fun q => absurd q (by omega), fun _ => ?_⟩
      refine ih _ ?_ ?_
      · simp (disch := first | omega | decide) only [jaU_eq, jaU_U, nI_add, pk_mul, jaIx_nI, vp_inT, true_and, and_true, ↓jaO0, ↓jaO1, nI_z, nI_z2, nI_z3, nI_z4, nI_z5, nI_lt', nI_le', nI_eq', jaUI_at, jaPt_eq, jaPt_ne, jaUI_o, jaUI_2, jaUL_at, jaUL_o, jaUL_1, jaB_z, jaB_1, ↓jaB_01, Classical.not_not, and_self, true_or, or_true, nI_11, Nat.reduceEqDiff, Nat.reduceAdd, Nat.reduceMul, Nat.add_zero, Nat.zero_add, Nat.mul_zero, not_true_eq_false, not_false_eq_true, false_implies, true_implies, a]
        rfl
      · (repeat' first | assumption | exact jaFr.rfl | refine jaFr.ui ?_ (by decide) (by decide) | refine jaFr.uf ?_ (by decide) | exact jaFr.mono (by assumption) (by decide) (by decide))
  apply js_M_crashes
  unfold jvC0 at L2
  refine ⟨fun q => ?_, fun q => ?_⟩
  · rw [nI_z (by omega)] at q
    rw [jaIf1_f q] at L2
    exact L2 S hs jaFr.rfl
  · rw [nI_z (by omega)] at q
    rw [jaIf1_t q] at L2
    exact sp_M_ceases (by omega) hs (fun S2 a f => L2 S2 a f)
theorem sp_M_tries {D : Nat} (hD : 1 ≤ D) {kk : jaT → Prop} {σ : jaT} {S : jaS} {s b : jvA} (hs : S.1 72 0 = s) (hb : S.1 84 0 = b) (h : ∀ S', S'.1 84 0 = jvCp b 0 s 31 494 → jaFr [84] [] S S' → kk (jaU σ 20 S')) : jaDe D jy_M_tries [jaMo] (jaU σ 20 S) (jaKv kk) := by
  obtain ⟨D, rfl, hD⟩ := jaSuc hD
  apply js_M_tries
  refine jaFor (C := fun k => ∀ S', S'.1 84 0 = jvCp b 0 s 31 k → jaFr [84] [] S S' → jc_M_tries_1 D kk (nI k) (jaU σ 20 S')) (N := 494) ?_ (fun k hk ih => ?_) S (by rw [jvCp_0, hb]) jaFr.rfl
  · intro S' a f
    apply jb_M_tries_1
    simp (disch := first | omega | decide) only [jaU_eq, jaU_U, nI_add, pk_mul, jaIx_nI, vp_inT, true_and, and_true, ↓jaO0, ↓jaO1, nI_z, nI_z2, nI_z3, nI_z4, nI_z5, nI_lt', nI_le', nI_eq', jaUI_at, jaPt_eq, jaPt_ne, jaUI_o, jaUI_2, jaUL_at, jaUL_o, jaUL_1, jaB_z, jaB_1, ↓jaB_01, Classical.not_not, and_self, true_or, or_true, nI_11, Nat.reduceEqDiff, Nat.reduceAdd, Nat.reduceMul, Nat.add_zero, Nat.zero_add, Nat.mul_zero, not_true_eq_false, not_false_eq_true, false_implies, true_implies]
    refine ⟨fun _ => ?_, fun q => absurd (by omega) q⟩
    exact h S' a f
  · intro S' a f
    apply jb_M_tries_1
    simp (disch := first | omega | decide) only [jaU_eq, jaU_U, nI_add, pk_mul, jaIx_nI, vp_inT, true_and, and_true, ↓jaO0, ↓jaO1, nI_z, nI_z2, nI_z3, nI_z4, nI_z5, nI_lt', nI_le', nI_eq', jaUI_at, jaPt_eq, jaPt_ne, jaUI_o, jaUI_2, jaUL_at, jaUL_o, jaUL_1, jaB_z, jaB_1, ↓jaB_01, Classical.not_not, and_self, true_or, or_true, nI_11, Nat.reduceEqDiff, Nat.reduceAdd, Nat.reduceMul, Nat.add_zero, Nat.zero_add, Nat.mul_zero, not_true_eq_false, not_false_eq_true, false_implies, true_implies, ((congrFun (f.s 72 (by decide) (by decide)) 0).trans hs)]
    refine ⟨fun q => absurd q (by omega), fun _ => ?_⟩
    refine ih _ ?_ ?_
    · simp (disch := first | omega | decide) only [jaU_eq, jaU_U, nI_add, pk_mul, jaIx_nI, vp_inT, true_and, and_true, ↓jaO0, ↓jaO1, nI_z, nI_z2, nI_z3, nI_z4, nI_z5, nI_lt', nI_le', nI_eq', jaUI_at, jaPt_eq, jaPt_ne, jaUI_o, jaUI_2, jaUL_at, jaUL_o, jaUL_1, jaB_z, jaB_1, ↓jaB_01, Classical.not_not, and_self, true_or, or_true, nI_11, Nat.reduceEqDiff, Nat.reduceAdd, Nat.reduceMul, Nat.add_zero, Nat.zero_add, Nat.mul_zero, not_true_eq_false, not_false_eq_true, false_implies, true_implies, a]
      rw [jvCp_s, Nat.zero_add]
    · (repeat' first | assumption | exact jaFr.rfl | refine jaFr.ui ?_ (by decide) (by decide) | refine jaFr.uf ?_ (by decide) | exact jaFr.mono (by assumption) (by decide) (by decide))
theorem sp_M_brings {D : Nat} (hD : 1 ≤ D) {kk : jaT → Prop} {σ : jaT} {S : jaS} {s b : jvA} (hs : S.1 72 0 = s) (hb : S.1 84 0 = b) (h : ∀ S', S'.1 72 0 = jvCp s 31 b 0 494 → jaFr [72] [] S S' → kk (jaU σ 20 S')) : jaDe D jy_M_brings [jaMo] (jaU σ 20 S) (jaKv kk) := by
  obtain ⟨D, rfl, hD⟩ := jaSuc hD
  apply js_M_brings
  refine jaFor (C := fun k => ∀ S', S'.1 72 0 = jvCp s 31 b 0 k → jaFr [72] [] S S' → jc_M_brings_1 D kk (nI k) (jaU σ 20 S')) (N := 494) ?_ (fun k hk ih => ?_) S (by rw [jvCp_0, hs]) jaFr.rfl
  · intro S' a f
    apply jb_M_brings_1
    simp (disch := first | omega | decide) only [jaU_eq, jaU_U, nI_add, pk_mul, jaIx_nI, vp_inT, true_and, and_true, ↓jaO0, ↓jaO1, nI_z, nI_z2, nI_z3, nI_z4, nI_z5, nI_lt', nI_le', nI_eq', jaUI_at, jaPt_eq, jaPt_ne, jaUI_o, jaUI_2, jaUL_at, jaUL_o, jaUL_1, jaB_z, jaB_1, ↓jaB_01, Classical.not_not, and_self, true_or, or_true, nI_11, Nat.reduceEqDiff, Nat.reduceAdd, Nat.reduceMul, Nat.add_zero, Nat.zero_add, Nat.mul_zero, not_true_eq_false, not_false_eq_true, false_implies, true_implies]
    refine ⟨fun _ => ?_, fun q => absurd (by omega) q⟩
    exact h S' a f
  · intro S' a f
    apply jb_M_brings_1
    simp (disch := first | omega | decide) only [jaU_eq, jaU_U, nI_add, pk_mul, jaIx_nI, vp_inT, true_and, and_true, ↓jaO0, ↓jaO1, nI_z, nI_z2, nI_z3, nI_z4, nI_z5, nI_lt', nI_le', nI_eq', jaUI_at, jaPt_eq, jaPt_ne, jaUI_o, jaUI_2, jaUL_at, jaUL_o, jaUL_1, jaB_z, jaB_1, ↓jaB_01, Classical.not_not, and_self, true_or, or_true, nI_11, Nat.reduceEqDiff, Nat.reduceAdd, Nat.reduceMul, Nat.add_zero, Nat.zero_add, Nat.mul_zero, not_true_eq_false, not_false_eq_true, false_implies, true_implies, ((congrFun (f.s 84 (by decide) (by decide)) 0).trans hb)]
    refine ⟨fun q => absurd q (by omega), fun _ => ?_⟩
    refine ih _ ?_ ?_
    · simp (disch := first | omega | decide) only [jaU_eq, jaU_U, nI_add, pk_mul, jaIx_nI, vp_inT, true_and, and_true, ↓jaO0, ↓jaO1, nI_z, nI_z2, nI_z3, nI_z4, nI_z5, nI_lt', nI_le', nI_eq', jaUI_at, jaPt_eq, jaPt_ne, jaUI_o, jaUI_2, jaUL_at, jaUL_o, jaUL_1, jaB_z, jaB_1, ↓jaB_01, Classical.not_not, and_self, true_or, or_true, nI_11, Nat.reduceEqDiff, Nat.reduceAdd, Nat.reduceMul, Nat.add_zero, Nat.zero_add, Nat.mul_zero, not_true_eq_false, not_false_eq_true, false_implies, true_implies, a]
      rw [jvCp_s, Nat.zero_add]
    · (repeat' first | assumption | exact jaFr.rfl | refine jaFr.ui ?_ (by decide) (by decide) | refine jaFr.uf ?_ (by decide) | exact jaFr.mono (by assumption) (by decide) (by decide))
/-- what is kept of states ahead, as rows: shifted when there are eight -/
noncomputable def jvSt (s u : jvA) (m : Nat) : jvA := jaIf1 (m = 8) (jvCp (jvCp u 0 u 494 3458) 3458 s 31 494) (jvCp u (494 * m) s 31 494)
noncomputable def jvStM (m : Nat) : Nat := jaIf1 (m = 8) 8 (m + 1)
set_option maxHeartbeats 1000000 in
theorem sp_M_stores {D : Nat} (hD : 1 ≤ D) {kk : jaT → Prop} {σ : jaT} {S : jaS} {s u : jvA} {m : Nat} (hs : S.1 72 0 = s) (hu : S.1 83 0 = u) (hm : S.1 70 0 33 = nI m) (hm8 : m ≤ 8) (h : ∀ S', S'.1 83 0 = jvSt s u m → S'.1 70 0 33 = nI (jvStM m) → jaFr [83] [33] S S' → kk (jaU σ 20 S')) : jaDe D jy_M_stores [jaMo] (jaU σ 20 S) (jaKv kk) := by
  obtain ⟨D, rfl, hD⟩ := jaSuc hD
  have L4 : ∀ (S0 : jaS) (u0 : jvA) (m0 : Nat), S0.1 83 0 = u0 → S0.1 70 0 33 = nI m0 → m0 < 8 → jvSt s u m = jvCp u0 (494 * m0) s 31 494 → jvStM m = m0 + 1 → jaFr [83] [33] S S0 → jc_M_stores_4 D kk (nI 0) (jaU σ 20 S0) := by
    intro S0 u0 m0 a0 b0 hm0 e1 e2 f0
    rw [e1, e2] at h
    refine jaFor (C := fun k => ∀ S', S'.1 83 0 = jvCp u0 (494 * m0) s 31 k → S'.1 70 0 33 = nI m0 → jaFr [83] [33] S S' → jc_M_stores_4 D kk (nI k) (jaU σ 20 S')) (N := 494) ?_ (fun k hk ih => ?_) S0 (by rw [jvCp_0, a0]) b0 f0
    · intro S' a b f
      apply jb_M_stores_4
      simp (disch := first | omega | decide) only [jaU_eq, jaU_U, nI_add, pk_mul, jaIx_nI, vp_inT, true_and, and_true, ↓jaO0, ↓jaO1, nI_z, nI_z2, nI_z3, nI_z4, nI_z5, nI_lt', nI_le', nI_eq', jaUI_at, jaPt_eq, jaPt_ne, jaUI_o, jaUI_2, jaUL_at, jaUL_o, jaUL_1, jaB_z, jaB_1, ↓jaB_01, Classical.not_not, and_self, true_or, or_true, nI_11, Nat.reduceEqDiff, Nat.reduceAdd, Nat.reduceMul, Nat.add_zero, Nat.zero_add, Nat.mul_zero, not_true_eq_false, not_false_eq_true, false_implies, true_implies, b]
      refine ⟨fun _ => ?_, fun q => absurd (by omega) q⟩
      refine h _ ?_ ?_ ?_
      · simp (disch := first | omega | decide) only [jaU_eq, jaU_U, nI_add, pk_mul, jaIx_nI, vp_inT, true_and, and_true, ↓jaO0, ↓jaO1, nI_z, nI_z2, nI_z3, nI_z4, nI_z5, nI_lt', nI_le', nI_eq', jaUI_at, jaPt_eq, jaPt_ne, jaUI_o, jaUI_2, jaUL_at, jaUL_o, jaUL_1, jaB_z, jaB_1, ↓jaB_01, Classical.not_not, and_self, true_or, or_true, nI_11, Nat.reduceEqDiff, Nat.reduceAdd, Nat.reduceMul, Nat.add_zero, Nat.zero_add, Nat.mul_zero, not_true_eq_false, not_false_eq_true, false_implies, true_implies, a]
      · simp (disch := first | omega | decide) only [jaU_eq, jaU_U, nI_add, pk_mul, jaIx_nI, vp_inT, true_and, and_true, ↓jaO0, ↓jaO1, nI_z, nI_z2, nI_z3, nI_z4, nI_z5, nI_lt', nI_le', nI_eq', jaUI_at, jaPt_eq, jaPt_ne, jaUI_o, jaUI_2, jaUL_at, jaUL_o, jaUL_1, jaB_z, jaB_1, ↓jaB_01, Classical.not_not, and_self, true_or, or_true, nI_11, Nat.reduceEqDiff, Nat.reduceAdd, Nat.reduceMul, Nat.add_zero, Nat.zero_add, Nat.mul_zero, not_true_eq_false, not_false_eq_true, false_implies, true_implies]
      · (repeat' first | assumption | exact jaFr.rfl | refine jaFr.ui ?_ (by decide) (by decide) | refine jaFr.uf ?_ (by decide) | exact jaFr.mono (by assumption) (by decide) (by decide))
    · intro S' a b f
      apply jb_M_stores_4
      simp (disch := first | omega | decide) only [jaU_eq, jaU_U, nI_add, pk_mul, jaIx_nI, vp_inT, true_and, and_true, ↓jaO0, ↓jaO1, nI_z, nI_z2, nI_z3, nI_z4, nI_z5, nI_lt', nI_le', nI_eq', jaUI_at, jaPt_eq, jaPt_ne, jaUI_o, jaUI_2, jaUL_at, jaUL_o, jaUL_1, jaB_z, jaB_1, ↓jaB_01, Classical.not_not, and_self, true_or, or_true, nI_11, Nat.reduceEqDiff, Nat.reduceAdd, Nat.reduceMul, Nat.add_zero, Nat.zero_add, Nat.mul_zero, not_true_eq_false, not_false_eq_true, false_implies, true_implies, b, ((congrFun (f.s 72 (by decide) (by decide)) 0).trans hs)]
      refine ⟨fun q => absurd q (by omega), fun _ => ?_⟩
      refine ih _ ?_ ?_ ?_
      · simp (disch := first | omega | decide) only [jaU_eq, jaU_U, nI_add, pk_mul, jaIx_nI, vp_inT, true_and, and_true, ↓jaO0, ↓jaO1, nI_z, nI_z2, nI_z3, nI_z4, nI_z5, nI_lt', nI_le', nI_eq', jaUI_at, jaPt_eq, jaPt_ne, jaUI_o, jaUI_2, jaUL_at, jaUL_o, jaUL_1, jaB_z, jaB_1, ↓jaB_01, Classical.not_not, and_self, true_or, or_true, nI_11, Nat.reduceEqDiff, Nat.reduceAdd, Nat.reduceMul, Nat.add_zero, Nat.zero_add, Nat.mul_zero, not_true_eq_false, not_false_eq_true, false_implies, true_implies, a]
        rw [jvCp_s]
      · simp (disch := first | omega | decide) only [jaU_eq, jaU_U, nI_add, pk_mul, jaIx_nI, vp_inT, true_and, and_true, ↓jaO0, ↓jaO1, nI_z, nI_z2, nI_z3, nI_z4, nI_z5, nI_lt', nI_le', nI_eq', jaUI_at, jaPt_eq, jaPt_ne, jaUI_o, jaUI_2, jaUL_at, jaUL_o, jaUL_1, jaB_z, jaB_1, ↓jaB_01, Classical.not_not, and_self, true_or, or_true, nI_11, Nat.reduceEqDiff, Nat.reduceAdd, Nat.reduceMul, Nat.add_zero, Nat.zero_add, Nat.mul_zero, not_true_eq_false, not_false_eq_true, false_implies, true_implies, b]
      · (repeat' first | assumption | exact jaFr.rfl | refine jaFr.ui ?_ (by decide) (by decide) | refine jaFr.uf ?_ (by decide) | exact jaFr.mono (by assumption) (by decide) (by decide))
  apply js_M_stores
  simp (disch := first | omega | decide) only [jaU_eq, jaU_U, nI_add, pk_mul, jaIx_nI, vp_inT, true_and, and_true, ↓jaO0, ↓jaO1, nI_z, nI_z2, nI_z3, nI_z4, nI_z5, nI_lt', nI_le', nI_eq', jaUI_at, jaPt_eq, jaPt_ne, jaUI_o, jaUI_2, jaUL_at, jaUL_o, jaUL_1, jaB_z, jaB_1, ↓jaB_01, Classical.not_not, and_self, true_or, or_true, nI_11, Nat.reduceEqDiff, Nat.reduceAdd, Nat.reduceMul, Nat.add_zero, Nat.zero_add, Nat.mul_zero, not_true_eq_false, not_false_eq_true, false_implies, true_implies, hm]
  refine ⟨fun q => ?_, fun q => ?_⟩
  · exact L4 S u m hu hm (by omega) (jaIf1_f q) (jaIf1_f q) jaFr.rfl
  · subst q
    refine jaFor (C := fun k => ∀ S', S'.1 83 0 = jvCp u 0 u 494 k → jaFr [83] [33] S S' → jc_M_stores_1 D kk (nI k) (jaU σ 20 S')) (N := 3458) ?_ (fun k hk ih => ?_) S (by rw [jvCp_0, hu]) jaFr.rfl
    · intro S' a f
      apply jb_M_stores_1
      simp (disch := first | omega | decide) only [jaU_eq, jaU_U, nI_add, pk_mul, jaIx_nI, vp_inT, true_and, and_true, ↓jaO0, ↓jaO1, nI_z, nI_z2, nI_z3, nI_z4, nI_z5, nI_lt', nI_le', nI_eq', jaUI_at, jaPt_eq, jaPt_ne, jaUI_o, jaUI_2, jaUL_at, jaUL_o, jaUL_1, jaB_z, jaB_1, ↓jaB_01, Classical.not_not, and_self, true_or, or_true, nI_11, Nat.reduceEqDiff, Nat.reduceAdd, Nat.reduceMul, Nat.add_zero, Nat.zero_add, Nat.mul_zero, not_true_eq_false, not_false_eq_true, false_implies, true_implies]
      refine ⟨fun _ => ?_, fun q => absurd (by omega) q⟩
      refine L4 _ (jvCp u 0 u 494 3458) 7 ?_ ?_ (by decide) (jaIf1_t rfl) (jaIf1_t rfl) ?_
      · simp (disch := first | omega | decide) only [jaU_eq, jaU_U, nI_add, pk_mul, jaIx_nI, vp_inT, true_and, and_true, ↓jaO0, ↓jaO1, nI_z, nI_z2, nI_z3, nI_z4, nI_z5, nI_lt', nI_le', nI_eq', jaUI_at, jaPt_eq, jaPt_ne, jaUI_o, jaUI_2, jaUL_at, jaUL_o, jaUL_1, jaB_z, jaB_1, ↓jaB_01, Classical.not_not, and_self, true_or, or_true, nI_11, Nat.reduceEqDiff, Nat.reduceAdd, Nat.reduceMul, Nat.add_zero, Nat.zero_add, Nat.mul_zero, not_true_eq_false, not_false_eq_true, false_implies, true_implies, a]
      · simp (disch := first | omega | decide) only [jaU_eq, jaU_U, nI_add, pk_mul, jaIx_nI, vp_inT, true_and, and_true, ↓jaO0, ↓jaO1, nI_z, nI_z2, nI_z3, nI_z4, nI_z5, nI_lt', nI_le', nI_eq', jaUI_at, jaPt_eq, jaPt_ne, jaUI_o, jaUI_2, jaUL_at, jaUL_o, jaUL_1, jaB_z, jaB_1, ↓jaB_01, Classical.not_not, and_self, true_or, or_true, nI_11, Nat.reduceEqDiff, Nat.reduceAdd, Nat.reduceMul, Nat.add_zero, Nat.zero_add, Nat.mul_zero, not_true_eq_false, not_false_eq_true, false_implies, true_implies]
      · (repeat' first | assumption | exact jaFr.rfl | refine jaFr.ui ?_ (by decide) (by decide) | refine jaFr.uf ?_ (by decide) | exact jaFr.mono (by assumption) (by decide) (by decide))
    · intro S' a f
      apply jb_M_stores_1
      simp (disch := first | omega | decide) only [jaU_eq, jaU_U, nI_add, pk_mul, jaIx_nI, vp_inT, true_and, and_true, ↓jaO0, ↓jaO1, nI_z, nI_z2, nI_z3, nI_z4, nI_z5, nI_lt', nI_le', nI_eq', jaUI_at, jaPt_eq, jaPt_ne, jaUI_o, jaUI_2, jaUL_at, jaUL_o, jaUL_1, jaB_z, jaB_1, ↓jaB_01, Classical.not_not, and_self, true_or, or_true, nI_11, Nat.reduceEqDiff, Nat.reduceAdd, Nat.reduceMul, Nat.add_zero, Nat.zero_add, Nat.mul_zero, not_true_eq_false, not_false_eq_true, false_implies, true_implies, a]
      refine ⟨fun q => absurd q (by omega), fun _ => ?_⟩
      refine ih _ ?_ ?_
      · simp (disch := first | omega | decide) only [jaU_eq, jaU_U, nI_add, pk_mul, jaIx_nI, vp_inT, true_and, and_true, ↓jaO0, ↓jaO1, nI_z, nI_z2, nI_z3, nI_z4, nI_z5, nI_lt', nI_le', nI_eq', jaUI_at, jaPt_eq, jaPt_ne, jaUI_o, jaUI_2, jaUL_at, jaUL_o, jaUL_1, jaB_z, jaB_1, ↓jaB_01, Classical.not_not, and_self, true_or, or_true, nI_11, Nat.reduceEqDiff, Nat.reduceAdd, Nat.reduceMul, Nat.add_zero, Nat.zero_add, Nat.mul_zero, not_true_eq_false, not_false_eq_true, false_implies, true_implies, a]
        rw [jvCp_s, Nat.zero_add, jvCp_out (Or.inr (by omega)), Nat.add_comm 494 k]
      · (repeat' first | assumption | exact jaFr.rfl | refine jaFr.ui ?_ (by decide) (by decide) | refine jaFr.uf ?_ (by decide) | exact jaFr.mono (by assumption) (by decide) (by decide))
end
