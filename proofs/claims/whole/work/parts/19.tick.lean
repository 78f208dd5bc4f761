section
/-! the reference: executing, a copy's tick -/
set_option maxHeartbeats 4000000 in
theorem sp_M_executes {D : Nat} (hD : 5 ≤ D) {kk : jaT → Prop} {σ : jaT} {S : jaS} {s d e : jvA} (hs : S.1 72 0 = s) (hd : S.1 75 0 = d) (he : S.1 76 0 = e) {c i : Nat} (hc : c < 3) (hi : i < jz s 34) (hX : jX s d e)
    (h : ∀ S', S'.1 72 0 = (jvEx s d e c i).1 → S'.1 76 0 = (jvEx s d e c i).2 → jaFr [72, 76, 80] [29] S S' → kk (jaU σ 20 S')) : jaDe D jy_M_executes [jaMo, .inl (nI c), .inl (nI i)] (jaU σ 20 S) (jaKv kk) := by
  obtain ⟨D, rfl, hD⟩ := jaSuc hD
  have hX' := hX
  obtain ⟨hw, hwd, hwe, ho⟩ := hX'
  obtain ⟨hid, hid'⟩ := ho.id hi
  have hO := ho.ord.2
  have hP := ho.pool.2
  have hM := ho.many.2
  obtain ⟨⟨hn, hn'⟩, hsite, hfe, hws, hwide⟩ := hwe _ hid'
  have hwn := hwd _ hn'
  obtain ⟨hK, hK'⟩ := hw.2.1
  have hK1 := hwn.1
  apply js_M_executes
  apply sp_M_idAt (by omega) hs (by omega)
  rw [hid]
  have hII2 : jvId s i = jz s (41 + i) := rfl
  generalize hII : jz s (41 + i) = id at *
  simp (disch := first | omega | decide) only [jaU_eq, jaU_U, nI_add, pk_mul, jaIx_nI, vp_inT, true_and, and_true, ↓jaO0, ↓jaO1, nI_z, nI_z2, nI_z3, nI_z4, nI_z5, nI_lt', nI_le', nI_eq', jaUI_at, jaPt_eq, jaPt_ne, jaUI_o, jaUI_2, jaUL_at, jaUL_o, jaUL_1, jaB_z, jaB_1, ↓jaB_01, Classical.not_not, and_self, true_or, or_true, nI_11, Nat.reduceEqDiff, Nat.reduceAdd, Nat.reduceMul, Nat.add_zero, Nat.zero_add, Nat.mul_zero, not_true_eq_false, not_false_eq_true, false_implies, true_implies]
  apply sp_M_goesBy_72 (by omega) hs hd he hs (f := 145 + 10 * c) (by omega) (by omega) hK hK' hn (by omega) hwn hfe
  intro S1 hF1 hg1
  have hh := jvGo_how (row := fun k => s (145 + 10 * c + k)) (d := d) (e := e) (k := nI (jz s 1)) (id := id)
  generalize hG : jvGo (fun k => s (145 + 10 * c + k)) d e (nI (jz s 1)) id = g at *
  obtain ⟨how, v, w⟩ := g
  have hEx := jvEx_eq (s := s) (d := d) (e := e) (c := c) (i := i) (how := how) (v := v) (w := w) (by rw [hK, hII2]; exact hG)
  rw [hEx, hII2] at h
  generalize hKK : jz s 1 = K at *
  have hF1' : jaFr [72, 76, 80] [29] S S1 := hF1.mono (by decide) (by decide)
  have hs1 := ((congrFun (hF1.s 72 (by decide) (by decide)) 0).trans hs)
  have he1 := ((congrFun (hF1.s 76 (by decide) (by decide)) 0).trans he)
  simp (disch := first | omega | decide) only [jaU_eq, jaU_U, nI_add, pk_mul, jaIx_nI, vp_inT, true_and, and_true, ↓jaO0, ↓jaO1, nI_z, nI_z2, nI_z3, nI_z4, nI_z5, nI_lt', nI_le', nI_eq', jaUI_at, jaPt_eq, jaPt_ne, jaUI_o, jaUI_2, jaUL_at, jaUL_o, jaUL_1, jaB_z, jaB_1, ↓jaB_01, Classical.not_not, and_self, true_or, or_true, nI_11, Nat.reduceEqDiff, Nat.reduceAdd, Nat.reduceMul, Nat.add_zero, Nat.zero_add, Nat.mul_zero, not_true_eq_false, not_false_eq_true, false_implies, true_implies]
  have hend : ∀ S', S'.1 72 0 = jaIf1 (how = nI 2) (jvPut c i v w (jvE1 s c i how) K) (jvE1 s c i how) → S'.1 76 0 = e → jaFr [72, 76, 80] [29] S S' →
      (how = nI 3 → 0 < c → kk (jaU σ 20 S')) ∧ (¬ how = nI 3 → kk (jaU σ 20 S')) ∧ (how = nI 3 → c = 0 → S'.1 72 0 (415 + i) = nI 1 → kk (jaU σ 20 S')) ∧
      (how = nI 3 → c = 0 → ¬ S'.1 72 0 (415 + i) = nI 1 → jaDe D jy_M_comes [jaMo, .inl (nI (jz e (9 * id)))] (jaU σ 20 (jaUI S' 72 0 (415 + i) (nI 1))) (jaKv kk)) := by
    intro S' hs' he' hF'
    have h415 : how = nI 3 → S'.1 72 0 (415 + i) = s (415 + i) := fun q => by
      rw [hs', jaIf1_f (by rw [q]; decide), jvE1_ne (by omega) (by omega)]
    refine ⟨fun q1 q2 => ?_, fun q1 => ?_, fun q1 q2 q3 => ?_, fun q1 q2 q3 => ?_⟩
    · rw [jaIf1_f (fun x => absurd x.2.1 (by omega))] at h
      exact h S' hs' he' hF'
    · rw [jaIf1_f (fun x => q1 x.1)] at h
      exact h S' hs' he' hF'
    · rw [h415 q1] at q3
      rw [jaIf1_f (fun x => x.2.2 q3)] at h
      exact h S' hs' he' hF'
    · rw [h415 q1] at q3
      subst q2
      have hag := jvEx_again hX hi q3 how
      rw [hII2] at hag
      rw [jaIf1_t ⟨q1, rfl, q3⟩] at h
      rw [jaIf1_f (by rw [q1]; decide)] at h hs'
      have hx := hag.1
      generalize hp : jaPt (jvE1 s 0 i how) (415 + i) (nI 1) = p at *
      have ne : ∀ j, j < 175 → p j = s j := fun j hj => by
        rw [← hp, jaPt_ne (by omega), jvE1_ne (by omega) (by omega)]
      have n1 := ne 1 (by omega)
      have n33 := ne 33 (by omega)
      have n35 := ne 35 (by omega)
      refine sp_M_comes (s := p) (d := d) (e := e) (by omega) ?_ ?_ ?_ (jWw_c (fun j hj => ne j (by omega)) hw) (by omega) (by rw [jz_c n1, hKK]; exact hwn) (by rw [jz_c n33, n33]; exact ho.pool.1) (by rw [jz_c n33]; exact hag.2) (by rw [jz_c n35, n35]; exact ho.came.1) (by rw [jz_c n35]; have := ho.2.2.2.2.1; omega) (fun S2 a b f => h S2 a b ?_)
      · simp (disch := first | omega | decide) only [jaU_eq, jaU_U, nI_add, pk_mul, jaIx_nI, vp_inT, true_and, and_true, ↓jaO0, ↓jaO1, nI_z, nI_z2, nI_z3, nI_z4, nI_z5, nI_lt', nI_le', nI_eq', jaUI_at, jaPt_eq, jaPt_ne, jaUI_o, jaUI_2, jaUL_at, jaUL_o, jaUL_1, jaB_z, jaB_1, ↓jaB_01, Classical.not_not, and_self, true_or, or_true, nI_11, Nat.reduceEqDiff, Nat.reduceAdd, Nat.reduceMul, Nat.add_zero, Nat.zero_add, Nat.mul_zero, not_true_eq_false, not_false_eq_true, false_implies, true_implies, hs', hp]
      · simp (disch := first | omega | decide) only [jaU_eq, jaU_U, nI_add, pk_mul, jaIx_nI, vp_inT, true_and, and_true, ↓jaO0, ↓jaO1, nI_z, nI_z2, nI_z3, nI_z4, nI_z5, nI_lt', nI_le', nI_eq', jaUI_at, jaPt_eq, jaPt_ne, jaUI_o, jaUI_2, jaUL_at, jaUL_o, jaUL_1, jaB_z, jaB_1, ↓jaB_01, Classical.not_not, and_self, true_or, or_true, nI_11, Nat.reduceEqDiff, Nat.reduceAdd, Nat.reduceMul, Nat.add_zero, Nat.zero_add, Nat.mul_zero, not_true_eq_false, not_false_eq_true, false_implies, true_implies, ((congrFun (hF'.s 75 (by decide) (by decide)) 0).trans hd)]
      · simp (disch := first | omega | decide) only [jaU_eq, jaU_U, nI_add, pk_mul, jaIx_nI, vp_inT, true_and, and_true, ↓jaO0, ↓jaO1, nI_z, nI_z2, nI_z3, nI_z4, nI_z5, nI_lt', nI_le', nI_eq', jaUI_at, jaPt_eq, jaPt_ne, jaUI_o, jaUI_2, jaUL_at, jaUL_o, jaUL_1, jaB_z, jaB_1, ↓jaB_01, Classical.not_not, and_self, true_or, or_true, nI_11, Nat.reduceEqDiff, Nat.reduceAdd, Nat.reduceMul, Nat.add_zero, Nat.zero_add, Nat.mul_zero, not_true_eq_false, not_false_eq_true, false_implies, true_implies, he']
      · refine jaFr.trans (S' := jaUI S' 72 0 (415 + i) (nI 1)) ?_ (f.mono (by decide) (by decide))
        (repeat' first | assumption | exact jaFr.rfl | refine jaFr.ui ?_ (by decide) (by decide) | refine jaFr.uf ?_ (by decide) | exact jaFr.mono (by assumption) (by decide) (by decide))
  have hS2 : (jaUI (jaUI S1 72 0 (175 + 40 * c + i) how) 72 0 (295 + 40 * c + i) (nI 0)).1 72 0 = jvE1 s c i how := by
    simp (disch := first | omega | decide) only [jaU_eq, jaU_U, nI_add, pk_mul, jaIx_nI, vp_inT, true_and, and_true, ↓jaO0, ↓jaO1, nI_z, nI_z2, nI_z3, nI_z4, nI_z5, nI_lt', nI_le', nI_eq', jaUI_at, jaPt_eq, jaPt_ne, jaUI_o, jaUI_2, jaUL_at, jaUL_o, jaUL_1, jaB_z, jaB_1, ↓jaB_01, Classical.not_not, and_self, true_or, or_true, nI_11, Nat.reduceEqDiff, Nat.reduceAdd, Nat.reduceMul, Nat.add_zero, Nat.zero_add, Nat.mul_zero, not_true_eq_false, not_false_eq_true, false_implies, true_implies, hs1, jvE1]
  have hF2 : jaFr [72, 76, 80] [29] S (jaUI (jaUI S1 72 0 (175 + 40 * c + i) how) 72 0 (295 + 40 * c + i) (nI 0)) := by
    (repeat' first | assumption | exact jaFr.rfl | refine jaFr.ui ?_ (by decide) (by decide) | refine jaFr.uf ?_ (by decide) | exact jaFr.mono (by assumption) (by decide) (by decide))
  have he2 : (jaUI (jaUI S1 72 0 (175 + 40 * c + i) how) 72 0 (295 + 40 * c + i) (nI 0)).1 76 0 = e := by
    simp (disch := first | omega | decide) only [jaU_eq, jaU_U, nI_add, pk_mul, jaIx_nI, vp_inT, true_and, and_true, ↓jaO0, ↓jaO1, nI_z, nI_z2, nI_z3, nI_z4, nI_z5, nI_lt', nI_le', nI_eq', jaUI_at, jaPt_eq, jaPt_ne, jaUI_o, jaUI_2, jaUL_at, jaUL_o, jaUL_1, jaB_z, jaB_1, ↓jaB_01, Classical.not_not, and_self, true_or, or_true, nI_11, Nat.reduceEqDiff, Nat.reduceAdd, Nat.reduceMul, Nat.add_zero, Nat.zero_add, Nat.mul_zero, not_true_eq_false, not_false_eq_true, false_implies, true_implies, he1]
  have hw2 : how = nI 2 → (jaUI (jaUI S1 72 0 (175 + 40 * c + i) how) 72 0 (295 + 40 * c + i) (nI 0)).1 70 0 29 = w ∧ ∀ k, k < 10 → jaBt w k → (jaUI (jaUI S1 72 0 (175 + 40 * c + i) how) 72 0 (295 + 40 * c + i) (nI 0)).1 80 0 k = v k := by
    intro q
    obtain ⟨a, b⟩ := hg1 v w (by rw [q])
    refine ⟨by simp (disch := first | omega | decide) only [jaU_eq, jaU_U, nI_add, pk_mul, jaIx_nI, vp_inT, true_and, and_true, ↓jaO0, ↓jaO1, nI_z, nI_z2, nI_z3, nI_z4, nI_z5, nI_lt', nI_le', nI_eq', jaUI_at, jaPt_eq, jaPt_ne, jaUI_o, jaUI_2, jaUL_at, jaUL_o, jaUL_1, jaB_z, jaB_1, ↓jaB_01, Classical.not_not, and_self, true_or, or_true, nI_11, Nat.reduceEqDiff, Nat.reduceAdd, Nat.reduceMul, Nat.add_zero, Nat.zero_add, Nat.mul_zero, not_true_eq_false, not_false_eq_true, false_implies, true_implies]
               exact a, fun k hk hb => ?_⟩
    simp (disch := first | omega | decide) only [jaU_eq, jaU_U, nI_add, pk_mul, jaIx_nI, vp_inT, true_and, and_true, ↓jaO0, ↓jaO1, nI_z, nI_z2, nI_z3, nI_z4, nI_z5, nI_lt', nI_le', nI_eq', jaUI_at, jaPt_eq, jaPt_ne, jaUI_o, jaUI_2, jaUL_at, jaUL_o, jaUL_1, jaB_z, jaB_1, ↓jaB_01, Classical.not_not, and_self, true_or, or_true, nI_11, Nat.reduceEqDiff, Nat.reduceAdd, Nat.reduceMul, Nat.add_zero, Nat.zero_add, Nat.mul_zero, not_true_eq_false, not_false_eq_true, false_implies, true_implies]
    rw [b k hk, jaIf1_t hb]
  generalize jaUI (jaUI S1 72 0 (175 + 40 * c + i) how) 72 0 (295 + 40 * c + i) (nI 0) = S2 at *
  have e1 : ∀ how : Int32, jvE1 s c i how 1 = nI K := fun how => by rw [jvE1_ne (by omega) (by omega), hK]
  by_cases hq : how = nI 2
  · obtain ⟨hgs, hgv⟩ := hw2 hq
    rw [jaIf1_t hq] at hend
    refine jaFor (C := fun k => ∀ S', S'.1 72 0 = jvPut c i v w (jvE1 s c i how) k → S'.1 76 0 = e → S'.1 70 0 29 = w → (∀ k, k < 10 → jaBt w k → S'.1 80 0 k = v k) → jaFr [72, 76, 80] [29] S S' → jc_M_executes_1 D kk (nI c) (nI i) (nI id) how (nI k) (jaU σ 20 S')) (N := K) ?_ (fun k hk ih => ?_) S2 hS2 he2 hgs hgv hF2
    · intro S' hs' he' hgs' hgv' hF'
      apply jb_M_executes_1
      simp (disch := first | omega | decide) only [jaU_eq, jaU_U, nI_add, pk_mul, jaIx_nI, vp_inT, true_and, and_true, ↓jaO0, ↓jaO1, nI_z, nI_z2, nI_z3, nI_z4, nI_z5, nI_lt', nI_le', nI_eq', jaUI_at, jaPt_eq, jaPt_ne, jaUI_o, jaUI_2, jaUL_at, jaUL_o, jaUL_1, jaB_z, jaB_1, ↓jaB_01, Classical.not_not, and_self, true_or, or_true, nI_11, Nat.reduceEqDiff, Nat.reduceAdd, Nat.reduceMul, Nat.add_zero, Nat.zero_add, Nat.mul_zero, not_true_eq_false, not_false_eq_true, false_implies, true_implies, hs', he']
      rw [jvPut_ne (by decide) _ (by omega) (by omega), e1]
      simp (disch := first | omega | decide) only [jaU_eq, jaU_U, nI_add, pk_mul, jaIx_nI, vp_inT, true_and, and_true, ↓jaO0, ↓jaO1, nI_z, nI_z2, nI_z3, nI_z4, nI_z5, nI_lt', nI_le', nI_eq', jaUI_at, jaPt_eq, jaPt_ne, jaUI_o, jaUI_2, jaUL_at, jaUL_o, jaUL_1, jaB_z, jaB_1, ↓jaB_01, Classical.not_not, and_self, true_or, or_true, nI_11, Nat.reduceEqDiff, Nat.reduceAdd, Nat.reduceMul, Nat.add_zero, Nat.zero_add, Nat.mul_zero, not_true_eq_false, not_false_eq_true, false_implies, true_implies]
      refine ⟨fun _ => ?_, fun q => absurd (by omega) q⟩
      have z := hend S' hs' he' hF'
      refine ⟨fun q => z.2.1 q, fun q => absurd q (by rw [hq]; decide)⟩
    · intro S' hs' he' hgs' hgv' hF'
      have hstep : jvPut c i v w (jvE1 s c i how) (k + 1) = jaIf1 (jaBt w k) (jaPt (jvTw (jvPut c i v w (jvE1 s c i how) k) c i k) (145 + 10 * c + k) (v k)) (jvPut c i v w (jvE1 s c i how) k) := jvPut_s
      have hp1 : jvPut c i v w (jvE1 s c i how) k 1 = nI K := by rw [jvPut_ne (by decide) _ (by omega) (by omega), e1]
      generalize jvPut c i v w (jvE1 s c i how) k = P at *
      rw [hstep] at ih
      apply jb_M_executes_1
      simp (disch := first | omega | decide) only [jaU_eq, jaU_U, nI_add, pk_mul, jaIx_nI, vp_inT, true_and, and_true, ↓jaO0, ↓jaO1, nI_z, nI_z2, nI_z3, nI_z4, nI_z5, nI_lt', nI_le', nI_eq', jaUI_at, jaPt_eq, jaPt_ne, jaUI_o, jaUI_2, jaUL_at, jaUL_o, jaUL_1, jaB_z, jaB_1, ↓jaB_01, Classical.not_not, and_self, true_or, or_true, nI_11, Nat.reduceEqDiff, Nat.reduceAdd, Nat.reduceMul, Nat.add_zero, Nat.zero_add, Nat.mul_zero, not_true_eq_false, not_false_eq_true, false_implies, true_implies, hs', he']
      rw [hp1]
      simp (disch := first | omega | decide) only [jaU_eq, jaU_U, nI_add, pk_mul, jaIx_nI, vp_inT, true_and, and_true, ↓jaO0, ↓jaO1, nI_z, nI_z2, nI_z3, nI_z4, nI_z5, nI_lt', nI_le', nI_eq', jaUI_at, jaPt_eq, jaPt_ne, jaUI_o, jaUI_2, jaUL_at, jaUL_o, jaUL_1, jaB_z, jaB_1, ↓jaB_01, Classical.not_not, and_self, true_or, or_true, nI_11, Nat.reduceEqDiff, Nat.reduceAdd, Nat.reduceMul, Nat.add_zero, Nat.zero_add, Nat.mul_zero, not_true_eq_false, not_false_eq_true, false_implies, true_implies, hgs']
      refine ⟨fun q => absurd q (by omega), fun _ => ?_⟩
      refine ⟨fun q => absurd hq q, fun _ => ?_⟩
      apply sp_M_bitOf (by omega)
      by_cases hb : jaBt w k
      · rw [jaIf1_t hb] at ih
        have hno : jvTw P c i k = P → jc_M_executes_1 D kk (nI c) (nI i) (nI id) how (nI (k + 1)) (jaU σ 20 (jaUI S' 72 0 (145 + 10 * c + k) (S'.1 80 0 k))) := fun q => by
          refine ih _ ?_ ?_ ?_ ?_ ?_
          · simp (disch := first | omega | decide) only [jaU_eq, jaU_U, nI_add, pk_mul, jaIx_nI, vp_inT, true_and, and_true, ↓jaO0, ↓jaO1, nI_z, nI_z2, nI_z3, nI_z4, nI_z5, nI_lt', nI_le', nI_eq', jaUI_at, jaPt_eq, jaPt_ne, jaUI_o, jaUI_2, jaUL_at, jaUL_o, jaUL_1, jaB_z, jaB_1, ↓jaB_01, Classical.not_not, and_self, true_or, or_true, nI_11, Nat.reduceEqDiff, Nat.reduceAdd, Nat.reduceMul, Nat.add_zero, Nat.zero_add, Nat.mul_zero, not_true_eq_false, not_false_eq_true, false_implies, true_implies, hs', q]
            rw [hgv' k (by omega) hb]
          · simp (disch := first | omega | decide) only [jaU_eq, jaU_U, nI_add, pk_mul, jaIx_nI, vp_inT, true_and, and_true, ↓jaO0, ↓jaO1, nI_z, nI_z2, nI_z3, nI_z4, nI_z5, nI_lt', nI_le', nI_eq', jaUI_at, jaPt_eq, jaPt_ne, jaUI_o, jaUI_2, jaUL_at, jaUL_o, jaUL_1, jaB_z, jaB_1, ↓jaB_01, Classical.not_not, and_self, true_or, or_true, nI_11, Nat.reduceEqDiff, Nat.reduceAdd, Nat.reduceMul, Nat.add_zero, Nat.zero_add, Nat.mul_zero, not_true_eq_false, not_false_eq_true, false_implies, true_implies, he']
          · simp (disch := first | omega | decide) only [jaU_eq, jaU_U, nI_add, pk_mul, jaIx_nI, vp_inT, true_and, and_true, ↓jaO0, ↓jaO1, nI_z, nI_z2, nI_z3, nI_z4, nI_z5, nI_lt', nI_le', nI_eq', jaUI_at, jaPt_eq, jaPt_ne, jaUI_o, jaUI_2, jaUL_at, jaUL_o, jaUL_1, jaB_z, jaB_1, ↓jaB_01, Classical.not_not, and_self, true_or, or_true, nI_11, Nat.reduceEqDiff, Nat.reduceAdd, Nat.reduceMul, Nat.add_zero, Nat.zero_add, Nat.mul_zero, not_true_eq_false, not_false_eq_true, false_implies, true_implies, hgs']
          · intro k' hk' hb'
            simp (disch := first | omega | decide) only [jaU_eq, jaU_U, nI_add, pk_mul, jaIx_nI, vp_inT, true_and, and_true, ↓jaO0, ↓jaO1, nI_z, nI_z2, nI_z3, nI_z4, nI_z5, nI_lt', nI_le', nI_eq', jaUI_at, jaPt_eq, jaPt_ne, jaUI_o, jaUI_2, jaUL_at, jaUL_o, jaUL_1, jaB_z, jaB_1, ↓jaB_01, Classical.not_not, and_self, true_or, or_true, nI_11, Nat.reduceEqDiff, Nat.reduceAdd, Nat.reduceMul, Nat.add_zero, Nat.zero_add, Nat.mul_zero, not_true_eq_false, not_false_eq_true, false_implies, true_implies]
            exact hgv' k' hk' hb'
          · (repeat' first | assumption | exact jaFr.rfl | refine jaFr.ui ?_ (by decide) (by decide) | refine jaFr.uf ?_ (by decide) | exact jaFr.mono (by assumption) (by decide) (by decide))
        have htn : ¬ (c = 0 ∧ P 36 = nI 1 ∧ ¬ nI i < P 37 ∧ ¬ nI k < P 38 ∧ ¬ jaBt (P 39) k) → jvTw P c i k = P := fun q => by
          unfold jvTw
          exact jaIf1_f q
        simp (disch := first | omega | decide) only [jaU_eq, jaU_U, nI_add, pk_mul, jaIx_nI, vp_inT, true_and, and_true, ↓jaO0, ↓jaO1, nI_z, nI_z2, nI_z3, nI_z4, nI_z5, nI_lt', nI_le', nI_eq', jaUI_at, jaPt_eq, jaPt_ne, jaUI_o, jaUI_2, jaUL_at, jaUL_o, jaUL_1, jaB_z, jaB_1, ↓jaB_01, Classical.not_not, and_self, true_or, or_true, nI_11, Nat.reduceEqDiff, Nat.reduceAdd, Nat.reduceMul, Nat.add_zero, Nat.zero_add, Nat.mul_zero, not_true_eq_false, not_false_eq_true, false_implies, true_implies, hs', hb]
        refine ⟨fun q1 => hno (htn fun x => q1 x.1), fun q1 => ⟨fun q2 => hno (htn fun x => q2 x.2.1), fun q2 => ⟨fun q3 => hno (htn fun x => x.2.2.1 q3), fun q3 => ⟨fun q4 => hno (htn fun x => x.2.2.2.1 q4), fun q4 => ?_⟩⟩⟩⟩
        apply sp_M_bitOf (by omega)
        simp (disch := first | omega | decide) only [jaU_eq, jaU_U, nI_add, pk_mul, jaIx_nI, vp_inT, true_and, and_true, ↓jaO0, ↓jaO1, nI_z, nI_z2, nI_z3, nI_z4, nI_z5, nI_lt', nI_le', nI_eq', jaUI_at, jaPt_eq, jaPt_ne, jaUI_o, jaUI_2, jaUL_at, jaUL_o, jaUL_1, jaB_z, jaB_1, ↓jaB_01, Classical.not_not, and_self, true_or, or_true, nI_11, Nat.reduceEqDiff, Nat.reduceAdd, Nat.reduceMul, Nat.add_zero, Nat.zero_add, Nat.mul_zero, not_true_eq_false, not_false_eq_true, false_implies, true_implies, hs']
        refine ⟨fun q5 => hno (htn fun x => x.2.2.2.2 q5), fun q5 => ?_⟩
        refine ih _ ?_ ?_ ?_ ?_ ?_
        · unfold jvTw
          rw [jaIf1_t ⟨q1, q2, q3, q4, q5⟩]
          simp (disch := first | omega | decide) only [jaU_eq, jaU_U, nI_add, pk_mul, jaIx_nI, vp_inT, true_and, and_true, ↓jaO0, ↓jaO1, nI_z, nI_z2, nI_z3, nI_z4, nI_z5, nI_lt', nI_le', nI_eq', jaUI_at, jaPt_eq, jaPt_ne, jaUI_o, jaUI_2, jaUL_at, jaUL_o, jaUL_1, jaB_z, jaB_1, ↓jaB_01, Classical.not_not, and_self, true_or, or_true, nI_11, Nat.reduceEqDiff, Nat.reduceAdd, Nat.reduceMul, Nat.add_zero, Nat.zero_add, Nat.mul_zero, not_true_eq_false, not_false_eq_true, false_implies, true_implies, hs', jaMk]
          rw [hgv' k (by omega) hb]
        · simp (disch := first | omega | decide) only [jaU_eq, jaU_U, nI_add, pk_mul, jaIx_nI, vp_inT, true_and, and_true, ↓jaO0, ↓jaO1, nI_z, nI_z2, nI_z3, nI_z4, nI_z5, nI_lt', nI_le', nI_eq', jaUI_at, jaPt_eq, jaPt_ne, jaUI_o, jaUI_2, jaUL_at, jaUL_o, jaUL_1, jaB_z, jaB_1, ↓jaB_01, Classical.not_not, and_self, true_or, or_true, nI_11, Nat.reduceEqDiff, Nat.reduceAdd, Nat.reduceMul, Nat.add_zero, Nat.zero_add, Nat.mul_zero, not_true_eq_false, not_false_eq_true, false_implies, true_implies, he']
        · simp (disch := first | omega | decide) only [jaU_eq, jaU_U, nI_add, pk_mul, jaIx_nI, vp_inT, true_and, and_true, ↓jaO0, ↓jaO1, nI_z, nI_z2, nI_z3, nI_z4, nI_z5, nI_lt', nI_le', nI_eq', jaUI_at, jaPt_eq, jaPt_ne, jaUI_o, jaUI_2, jaUL_at, jaUL_o, jaUL_1, jaB_z, jaB_1, ↓jaB_01, Classical.not_not, and_self, true_or, or_true, nI_11, Nat.reduceEqDiff, Nat.reduceAdd, Nat.reduceMul, Nat.add_zero, Nat.zero_add, Nat.mul_zero, not_true_eq_false, not_false_eq_true, false_implies, true_implies, hgs']
        · intro k' hk' hb'
          simp (disch := first | omega | decide) only [jaU_eq, jaU_U, nI_add, pk_mul, jaIx_nI, vp_inT, true_and, and_true, ↓jaO0, ↓jaO1, nI_z, nI_z2, nI_z3, nI_z4, nI_z5, nI_lt', nI_le', nI_eq', jaUI_at, jaPt_eq, jaPt_ne, jaUI_o, jaUI_2, jaUL_at, jaUL_o, jaUL_1, jaB_z, jaB_1, ↓jaB_01, Classical.not_not, and_self, true_or, or_true, nI_11, Nat.reduceEqDiff, Nat.reduceAdd, Nat.reduceMul, Nat.add_zero, Nat.zero_add, Nat.mul_zero, not_true_eq_false, not_false_eq_true, false_implies, true_implies]
          exact hgv' k' hk' hb'
        · (repeat' first | assumption | exact jaFr.rfl | refine jaFr.ui ?_ (by decide) (by decide) | refine jaFr.uf ?_ (by decide) | exact jaFr.mono (by assumption) (by decide) (by decide))
      · rw [jaIf1_f hb] at ih
        simp (disch := first | omega | decide) only [jaU_eq, jaU_U, nI_add, pk_mul, jaIx_nI, vp_inT, true_and, and_true, ↓jaO0, ↓jaO1, nI_z, nI_z2, nI_z3, nI_z4, nI_z5, nI_lt', nI_le', nI_eq', jaUI_at, jaPt_eq, jaPt_ne, jaUI_o, jaUI_2, jaUL_at, jaUL_o, jaUL_1, jaB_z, jaB_1, ↓jaB_01, Classical.not_not, and_self, true_or, or_true, nI_11, Nat.reduceEqDiff, Nat.reduceAdd, Nat.reduceMul, Nat.add_zero, Nat.zero_add, Nat.mul_zero, not_true_eq_false, not_false_eq_true, false_implies, true_implies, hb]
        exact ih S' hs' he' hgs' hgv' hF'
  · rw [jaIf1_f hq] at hend
    have z := hend S2 hS2 he2 hF2
    apply jb_M_executes_1
    simp (disch := first | omega | decide) only [jaU_eq, jaU_U, nI_add, pk_mul, jaIx_nI, vp_inT, true_and, and_true, ↓jaO0, ↓jaO1, nI_z, nI_z2, nI_z3, nI_z4, nI_z5, nI_lt', nI_le', nI_eq', jaUI_at, jaPt_eq, jaPt_ne, jaUI_o, jaUI_2, jaUL_at, jaUL_o, jaUL_1, jaB_z, jaB_1, ↓jaB_01, Classical.not_not, and_self, true_or, or_true, nI_11, Nat.reduceEqDiff, Nat.reduceAdd, Nat.reduceMul, Nat.add_zero, Nat.zero_add, Nat.mul_zero, not_true_eq_false, not_false_eq_true, false_implies, true_implies, hS2, he2]
    rw [e1]
    simp (disch := first | omega | decide) only [jaU_eq, jaU_U, nI_add, pk_mul, jaIx_nI, vp_inT, true_and, and_true, ↓jaO0, ↓jaO1, nI_z, nI_z2, nI_z3, nI_z4, nI_z5, nI_lt', nI_le', nI_eq', jaUI_at, jaPt_eq, jaPt_ne, jaUI_o, jaUI_2, jaUL_at, jaUL_o, jaUL_1, jaB_z, jaB_1, ↓jaB_01, Classical.not_not, and_self, true_or, or_true, nI_11, Nat.reduceEqDiff, Nat.reduceAdd, Nat.reduceMul, Nat.add_zero, Nat.zero_add, Nat.mul_zero, not_true_eq_false, not_false_eq_true, false_implies, true_implies, hn]
    refine ⟨fun q => absurd q (by omega), fun _ => ?_⟩
    refine ⟨fun _ => ⟨z.2.1, fun q1 => ⟨fun q2 => z.1 q1 q2, fun q2 => ?_⟩⟩, fun q => absurd q hq⟩
    have z1 := z.2.2.1 q1 (by omega)
    have z2 := z.2.2.2 q1 (by omega)
    rw [hS2] at z1 z2
    refine ⟨fun q3 => ?_, fun q3 => z1 q3⟩
    exact z2 q3
end
