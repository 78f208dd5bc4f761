section
/-! the class: a tick -/
theorem jR_40 {S : jaS} {s d e : jvA} {v : Int32} (hR : jR S (s, d, e)) (hX : jX s d e) (hk : jKk s) : jR (jaUI S 40 0 5 v) (jaPt s 31 v, d, e) := by
  have ne : ∀ j, j ≠ 31 → jaPt s 31 v j = s j := fun j hj => jaPt_ne hj
  have h10 := hX.1.2.1.2
  have h3 := hX.1.2.2.1.2.2
  have hO := hX.2.2.2.ord.2
  have hC := hX.2.2.2.came.2
  have so : ∀ o, o ≠ 40 → (jaUI S 40 0 5 v).1 o = S.1 o := fun o ho => jaUI_o ho
  exact ⟨jRw_c (fun j hj => ne j (by omega)) hX.1 (jRw_S (fun o h1 h2 => so o (by omega)) hR.w), jRs_c (ne 32 (by omega)) (jRs_S (fun o h1 h2 => so o (by omega)) hR.s), jRe_c (ne 33 (by omega)) (jRe_S (fun o h1 h2 => so o (by omega)) hR.e), jRo_c (fun j hj => ne j (by omega)) hX.2.2.2 (jRo_S (fun o ho => so o (by omega)) hR.o), jRc_c (fun j hj => ne j (by omega)) h3 h10 hO (jRc_S (fun o h1 h2 => so o (by omega)) hR.c), jRk_c (fun j hj => ne j (by omega)) h10 hk.2.1 hk.1 (jRk_S (fun o h1 h2 => so o (by omega)) hR.k), by show (jaUI S 40 0 5 v).1 40 0 5 = jaPt s 31 v 31; rw [jaUI_at, jaPt_eq, jaPt_eq], jRp_c (fun j hj => ne j (by omega)) hC (jRp_S (so 66 (by decide)) hR.p)⟩
theorem jR_8 {S : jaS} {x : jvX} {v : Int32} (hR : jR S x) : jR (jaUI S 40 0 8 v) x := by
  have so : ∀ o, o ≠ 40 → (jaUI S 40 0 8 v).1 o = S.1 o := fun o ho => jaUI_o ho
  exact ⟨jRw_S (fun o h1 h2 => so o (by omega)) hR.w, jRs_S (fun o h1 h2 => so o (by omega)) hR.s, jRe_S (fun o h1 h2 => so o (by omega)) hR.e, jRo_S (fun o ho => so o (by omega)) hR.o, jRc_S (fun o h1 h2 => so o (by omega)) hR.c, jRk_S (fun o h1 h2 => so o (by omega)) hR.k, by rw [jaUI_at, jaPt_ne (by decide)]; exact hR.t, jRp_S (so 66 (by decide)) hR.p⟩
theorem jcE_5 {S S' : jaS} {v : Int32} (h : jcE S S') : jcE S (jaUI S' 40 0 5 v) := by
  show ((jaUI S' 40 0 5 v).2, (jaUI S' 40 0 5 v).1 40 0 8) = _
  rw [jaUI_at, jaPt_ne (by decide)]
  exact h
set_option maxHeartbeats 2000000 in
theorem sp_St_passTick {D : Nat} (hD : 7 ≤ D) {kk : jaT → Prop} {σ : jaT} {S : jaS} {s d e : jvA} {k : Nat} (hR : jR S (s, d, e)) (hW : jW s d e) (h : ∀ S', jR S' ((jvTick d (s, e)).1, d, (jvTick d (s, e)).2) → jcE S S' → kk (jaU σ k S')) : jaDe D jy_St_passTick [jcSt k] (jaU σ k S) (jaKv kk) := by
  obtain ⟨D, rfl, hD⟩ := jaSuc hD
  obtain ⟨hC, hC1, hC3⟩ := hW.w.2.2.1
  apply js_St_passTick
  refine jaFor (C := fun c => ∀ S', jR S' ((jvCgs d (s, e) c).1, d, (jvCgs d (s, e) c).2) → jcE S S' → jc_St_passTick_1 D kk k (nI c) (jaU σ k S')) (N := jz s 2) ?_ (fun c hc ih => ?_) S hR rfl
  · intro S' a f
    obtain ⟨w1, w2⟩ := jvCgs_W hW (jz s 2) hC3
    rw [jvTick_eq] at h
    have w30 : S'.1 30 0 2 = nI (jz s 2) := (a.w.1.2.2.1).trans ((w2.1 2 (Or.inl (by decide))).trans hC)
    generalize jvCgs d (s, e) (jz s 2) = x at *
    obtain ⟨s1, e1⟩ := x
    simp only [] at a w1 w2 h
    have hT := jvTn_W w1
    have hT2 := (jvT2_W (e := e1) hT).1
    -- behind the check
    have tail : ∀ S2, jR S2 (jvTn s1, d, e1) → jcE S S2 → (S2.1 30 0 3 ≤ 0 → kk (jaU σ k (jaUI S2 40 0 5 (S2.1 40 0 5 + nI 1)))) ∧ (¬ S2.1 30 0 3 ≤ 0 → ¬ S2.1 30 0 3 = 0 ∧ ((¬ S2.1 40 0 5 + nI 1 - (S2.1 40 0 5 + nI 1) / S2.1 30 0 3 * S2.1 30 0 3 = 0 → kk (jaU σ k (jaUI S2 40 0 5 (S2.1 40 0 5 + nI 1)))) ∧
        (S2.1 40 0 5 + nI 1 - (S2.1 40 0 5 + nI 1) / S2.1 30 0 3 * S2.1 30 0 3 = 0 → jaDe D jy_St_endEpoch [jcSt k] (jaU σ k S2) (jaKv fun σ4 => kk (jaU σ4 k (jaUI (σ4 k) 40 0 5 ((σ4 k).1 40 0 5 + nI 1))))))) := by
      intro S2 a2 f2
      have h2 : ∀ S', jR S' (jaPt (jvT2 (jvTn s1) e1) 31 (jvT2 (jvTn s1) e1 31 + nI 1), d, e1) → jcE S S' → kk (jaU σ k S') := h
      have t3 := hT.w.2.2.2.1
      have e3 : S2.1 30 0 3 = jvTn s1 3 := a2.w.1.2.2.2.1
      have e5 : S2.1 40 0 5 = jvTn s1 31 := a2.t
      rw [e3, e5]
      generalize jvTn s1 = s2 at *
      unfold jvT2 at h2 hT2
      refine ⟨fun q => ?_, fun _ => ⟨?_, fun q => ?_, fun q => ?_⟩⟩
      · rw [t3.1, nI_z4 (by omega)] at q
        omega
      · rw [t3.1, nI_z (by omega)]
        omega
      · rw [jaIf1_f q] at h2 hT2
        exact h2 _ (jR_40 a2 hT.X hT.kk) (jcE_5 f2)
      · rw [jaIf1_t q] at h2 hT2
        refine sp_St_endEpoch (by omega) a2 hT (fun S3 a3 f3 => ?_)
        rw [jaU_eq, jaU_U, show S3.1 40 0 5 = jvAg2 s2 e1 (jz s2 0) 31 from a3.t]
        exact h2 _ (jR_40 a3 hT2.X hT2.kk) (jcE_5 (f3.trans f2))
    apply jb_St_passTick_1
    simp only [jaU_eq, jaU_U]
    rw [w30]
    refine ⟨fun _ => ?_, fun q => absurd (nI_le (Nat.le_refl _) (by omega)) q⟩
    have e0 : S'.1 44 0 0 = s1 36 := a.k.1
    rw [e0]
    have h10 := w1.w.2.1.2
    have hO := w1.o.ord
    refine ⟨fun q => ?_, fun q => ?_⟩
    · have hno : jvTn s1 = s1 := by
        simp only [jvTn]
        exact jaIf1_t (Or.inl q)
      rw [hno] at tail
      exact tail S' a f
    · obtain ⟨k1, k2, k3, k4, k5⟩ : s1 36 = nI 1 ∧ s1 37 = nI (jz s1 37) ∧ jz s1 37 ≤ jz s1 34 ∧ s1 38 = nI (jz s1 38) ∧ jz s1 38 < jz s1 1 := by
        rcases w1.k.1 with z | z
        · exact absurd (z.1.trans nI_0) q
        · exact z
      have e1' : S'.1 44 0 1 = nI (jz s1 37) := ((a.k.2.1 k1).1.1).trans k2
      have h3 := w1.w.2.2.1
      rw [e1', jaIx_nI (by decide)]
      refine ⟨vp_in_nI (by decide) (by decide), ?_⟩
      refine sp_Cp_isExecutedAhead (by omega) a w1.c (show 0 < jz s1 2 by omega) (by decide) (show jz s1 37 ≤ jz s1 34 from k3) hO.2 ?_
      simp only [jaB_z, Classical.not_not, jaU_eq, jaU_U]
      refine ⟨fun q2 => ?_, fun q2 => ?_⟩
      · have hno : jvTn s1 = s1 := by
          simp only [jvTn]
          exact jaIf1_t (Or.inr q2)
        rw [hno] at tail
        exact tail S' a f
      · refine sp_St_takeCheckKey (by omega) a w1 k1 q2 (fun S2 a2 f2 => ?_)
        simp only [jaU_eq, jaU_U]
        exact tail S2 a2 (f2.trans f)
  · intro S' a f
    obtain ⟨w1, w2⟩ := jvCgs_W hW c (by omega)
    have hst : jvCgs d (s, e) (c + 1) = jvCg d c (jvCgs d (s, e) c) := rfl
    rw [hst] at ih
    have w30 : S'.1 30 0 2 = nI (jz s 2) := (a.w.1.2.2.1).trans ((w2.1 2 (Or.inl (by decide))).trans hC)
    have z2 : jz (jvCgs d (s, e) c).1 2 = jz s 2 := jz_c (w2.1 2 (Or.inl (by decide)))
    generalize jvCgs d (s, e) c = x at *
    obtain ⟨s1, e1⟩ := x
    simp only [] at a w1 w2 z2
    have p1 := jvPs_W w1 (show c < 3 by omega) _ (Nat.le_refl _)
    have hcg : jvCg d c (s1, e1) = jvTk d c (jvPks (jvPs d c (s1, e1) (jz s1 34)).1 (jvPs d c (s1, e1) (jz s1 34)).2 c) (jvPs d c (s1, e1) (jz s1 34)) := rfl
    rw [hcg] at ih
    apply jb_St_passTick_1
    simp only [jaU_eq, jaU_U]
    rw [w30]
    refine ⟨fun q => absurd q (nI_ge hc (by omega)), fun _ => ?_⟩
    refine sp_St_passGoing (by omega) a w1 (by omega) (fun S2 a2 f2 => ?_)
    have z22 : jz (jvPs d c (s1, e1) (jz s1 34)).1 2 = jz s1 2 := jz_c (p1.2.1 2 (Or.inl (by decide)))
    generalize jvPs d c (s1, e1) (jz s1 34) = y at *
    obtain ⟨s2, e2⟩ := y
    simp only [] at a2 p1 z22 ih
    refine sp_St_takeReady (by omega) a2 p1.1 (by omega) (fun S3 a3 f3 => ?_)
    rw [nI_add]
    exact ih S3 a3 (f3.trans (f2.trans f))
/-! the class: draws -/
theorem sp_JM_max {D : Nat} (hD : 1 ≤ D) {kk : Int32 → jaT → Prop} {σ : jaT} {a b : Nat} (ha : a < 2147483648) (hb : b < 2147483648) (h : kk (nI (max a b)) σ) : jaDe D jy_JM_max [.inl (nI a), .inl (nI b)] σ (jaKi kk) := by
  obtain ⟨D, rfl, hD⟩ := jaSuc hD
  apply js_JM_max
  simp (disch := first | omega | decide) only [jaU_eq, jaU_U, nI_add, pk_mul, jaIx_nI, vp_inT, true_and, and_true, ↓jaO0, ↓jaO1, nI_z, nI_z2, nI_z3, nI_z4, nI_z5, nI_lt', nI_le', nI_eq', jaUI_at, jaPt_eq, jaPt_ne, jaUI_o, jaUI_2, jaUL_at, jaUL_o, jaUL_1, jaB_z, jaB_1, ↓jaB_01, Classical.not_not, and_self, true_or, or_true, nI_11, Nat.reduceEqDiff, Nat.reduceAdd, Nat.reduceMul, Nat.add_zero, Nat.zero_add, Nat.mul_zero, not_true_eq_false, not_false_eq_true, false_implies, true_implies]
  refine ⟨fun q => ?_, fun q => ?_⟩
  · rwa [Nat.max_eq_right (by omega)] at h
  · rwa [Nat.max_eq_left (by omega)] at h
theorem sp_JM_min {D : Nat} (hD : 1 ≤ D) {kk : Int32 → jaT → Prop} {σ : jaT} {a b : Nat} (ha : a < 2147483648) (hb : b < 2147483648) (h : kk (nI (min a b)) σ) : jaDe D jy_JM_min [.inl (nI a), .inl (nI b)] σ (jaKi kk) := by
  obtain ⟨D, rfl, hD⟩ := jaSuc hD
  apply js_JM_min
  simp (disch := first | omega | decide) only [jaU_eq, jaU_U, nI_add, pk_mul, jaIx_nI, vp_inT, true_and, and_true, ↓jaO0, ↓jaO1, nI_z, nI_z2, nI_z3, nI_z4, nI_z5, nI_lt', nI_le', nI_eq', jaUI_at, jaPt_eq, jaPt_ne, jaUI_o, jaUI_2, jaUL_at, jaUL_o, jaUL_1, jaB_z, jaB_1, ↓jaB_01, Classical.not_not, and_self, true_or, or_true, nI_11, Nat.reduceEqDiff, Nat.reduceAdd, Nat.reduceMul, Nat.add_zero, Nat.zero_add, Nat.mul_zero, not_true_eq_false, not_false_eq_true, false_implies, true_implies]
  refine ⟨fun q => ?_, fun q => ?_⟩
  · rwa [Nat.min_eq_right (by omega)] at h
  · rwa [Nat.min_eq_left (by omega)] at h
theorem sp_St_ticksLeft {D : Nat} (hD : 2 ≤ D) {kk : Int32 → jaT → Prop} {σ : jaT} {S : jaS} {k t : Nat} (h5 : S.1 40 0 5 = nI t) (ht : t ≤ 1000) (h : kk (nI (1000 - t)) (jaU σ k S)) : jaDe D jy_St_ticksLeft [jcSt k] (jaU σ k S) (jaKi kk) := by
  obtain ⟨D, rfl, hD⟩ := jaSuc hD
  apply js_St_ticksLeft
  simp (disch := first | omega | decide) only [jaU_eq, jaU_U, nI_add, pk_mul, jaIx_nI, vp_inT, true_and, and_true, ↓jaO0, ↓jaO1, nI_z, nI_z2, nI_z3, nI_z4, nI_z5, nI_lt', nI_le', nI_eq', jaUI_at, jaPt_eq, jaPt_ne, jaUI_o, jaUI_2, jaUL_at, jaUL_o, jaUL_1, jaB_z, jaB_1, ↓jaB_01, Classical.not_not, and_self, true_or, or_true, nI_11, Nat.reduceEqDiff, Nat.reduceAdd, Nat.reduceMul, Nat.add_zero, Nat.zero_add, Nat.mul_zero, not_true_eq_false, not_false_eq_true, false_implies, true_implies, h5]
  rw [nI_sub ht]
  refine sp_JM_max (by omega) (by omega) (by omega) ?_
  rw [Nat.zero_max]
  exact h
theorem sp_St_drawOf {D : Nat} (hD : 1 ≤ D) {kk : Int32 → jaT → Prop} {σ : jaT} {S : jaS} {z : Int32} {k : Nat} (hz : S.1 40 0 8 = z) {N : Nat} (h1 : 0 < N) (h2 : N < 2147483648) (h : kk (nI (jvQ (jvZ z) N)) (jaU σ k (jaUI S 40 0 8 (jvZ z)))) : jaDe D jy_St_drawOf [jcSt k, .inl (nI N)] (jaU σ k S) (jaKi kk) := by
  obtain ⟨D, rfl, hD⟩ := jaSuc hD
  apply js_St_drawOf
  simp only [jaU_eq, jaU_U, jaUI_at, jaPt_eq, hz]
  refine ⟨fun q => ?_, fun _ => ⟨nI_ne0 h1 h2, ?_⟩⟩
  · rw [nI_z4 h2] at q
    omega
  · show kk ((Int32.toUInt32 (jvZ z) >>> (Int32.toUInt32 (nI 8) &&& Int32.toUInt32 31)).toInt32 - (Int32.toUInt32 (jvZ z) >>> (Int32.toUInt32 (nI 8) &&& Int32.toUInt32 31)).toInt32 / nI N * nI N) (jaU σ k (jaUI S 40 0 8 (jvZ z)))
    rw [jvD_n h1 h2]
    exact h
theorem jR_z {S : jaS} {z : Int32} : (jaUI S 40 0 8 z).1 40 0 8 = z := by rw [jaUI_at, jaPt_eq]
set_option maxHeartbeats 2000000 in
theorem sp_St_drawAct {D : Nat} (hD : 5 ≤ D) {kk : jaT → Prop} {σ : jaT} {S : jaS} {x : jvX} {z : Int32} {k : Nat} (hR : jR S x) (hz : S.1 40 0 8 = z) (hW : jW3 x) (h : ∀ S', jR S' (jvDeed x z).1 → S'.1 40 0 8 = (jvDeed x z).2 → S'.2 = S.2 → kk (jaU σ k S')) : jaDe D jy_St_drawAct [jcSt k] (jaU σ k S) (jaKv kk) := by
  obtain ⟨D, rfl, hD⟩ := jaSuc hD
  obtain ⟨s, d, e⟩ := x
  have hW : jW s d e := hW
  obtain ⟨h0, h03⟩ := hW.w.1
  obtain ⟨h2, h2a, h2b⟩ := hW.w.2.2.1
  have hM := hW.o.many
  have hO := hW.o.ord
  have hq6 := jvQ_lt (z := jvZ z) (show 0 < 6 by decide)
  have hq2 := jvQ_lt (z := jvZ (jvZ z)) (show 0 < jz s 2 by omega)
  unfold jvDeed at h
  simp only [] at h
  have hR1 : jR (jaUI S 40 0 8 (jvZ z)) (s, d, e) := jR_8 hR
  have w0 : (jaUI S 40 0 8 (jvZ z)).1 30 0 0 = nI (jz s 0) := hR1.w.1.1.trans h0
  have w2 : (jaUI S 40 0 8 (jvZ z)).1 30 0 2 = nI (jz s 2) := hR1.w.1.2.2.1.trans h2
  have o54 : (jaUI S 40 0 8 (jvZ z)).1 54 0 0 = nI (jz s 32) := hR1.s.1.trans hM.1
  have e36 : (jaUI S 40 0 8 (jvZ z)).1 44 0 0 = s 36 := hR1.k.1
  have z1 : (jaUI S 40 0 8 (jvZ z)).1 40 0 8 = jvZ z := jR_z
  have l1 : (jaUI S 40 0 8 (jvZ z)).2 = S.2 := rfl
  apply js_St_drawAct
  refine sp_St_drawOf (by omega) hz (by omega) (by omega) ?_
  generalize jaUI S 40 0 8 (jvZ z) = S1 at *
  simp (disch := first | omega | decide) only [jaU_eq, jaU_U, nI_add, pk_mul, jaIx_nI, vp_inT, true_and, and_true, ↓jaO0, ↓jaO1, nI_z, nI_z2, nI_z3, nI_z4, nI_z5, nI_lt', nI_le', nI_eq', jaUI_at, jaPt_eq, jaPt_ne, jaUI_o, jaUI_2, jaUL_at, jaUL_o, jaUL_1, jaB_z, jaB_1, ↓jaB_01, Classical.not_not, and_self, true_or, or_true, nI_11, Nat.reduceEqDiff, Nat.reduceAdd, Nat.reduceMul, Nat.add_zero, Nat.zero_add, Nat.mul_zero, not_true_eq_false, not_false_eq_true, false_implies, true_implies, w0, w2, o54]
  refine ⟨fun q1 => ⟨fun q2 => ⟨fun q3 => ?_, fun q3 => ?_⟩, fun q2 => ?_⟩, fun q1 => ⟨fun q2 => ?_, fun q2 => ⟨fun q3 => ?_, fun q3 => ?_⟩⟩⟩
  · rw [jaIf1_f (fun x => by have := x.1; omega), jaIf1_f q2, jaIf1_f (fun x => q3 x.1)] at h
    exact h S1 hR1 z1 l1
  · rw [jaIf1_f (fun x => by have := x.1; omega), jaIf1_f q2] at h
    obtain ⟨D2, rfl, hD2⟩ := jaSuc (show 1 ≤ D by omega)
    apply js_St_whyNotCheck
    simp (disch := first | omega | decide) only [jaU_eq, jaU_U, nI_add, pk_mul, jaIx_nI, vp_inT, true_and, and_true, ↓jaO0, ↓jaO1, nI_z, nI_z2, nI_z3, nI_z4, nI_z5, nI_lt', nI_le', nI_eq', jaUI_at, jaPt_eq, jaPt_ne, jaUI_o, jaUI_2, jaUL_at, jaUL_o, jaUL_1, jaB_z, jaB_1, ↓jaB_01, Classical.not_not, and_self, true_or, or_true, nI_11, Nat.reduceEqDiff, Nat.reduceAdd, Nat.reduceMul, Nat.add_zero, Nat.zero_add, Nat.mul_zero, not_true_eq_false, not_false_eq_true, false_implies, true_implies, e36]
    refine ⟨fun q4 => ?_, fun q4 => ?_⟩
    · rw [jaIf1_t ⟨q3, q4⟩] at h
      have h36 : s 36 = nI 0 := by rw [q4]; decide
      exact sp_St_beginCheck (by omega) hR1 hW h36 (fun S2 a f => h S2 a (f.z.trans z1) (f.l.trans l1))
    · rw [jaIf1_f (fun x => q4 x.2)] at h
      exact h S1 hR1 z1 l1
  · rw [jaIf1_f (fun x => by have := x.1; omega), jaIf1_t q2] at h
    refine sp_St_drawOf (by omega) z1 (by omega) (by omega) ?_
    refine sp_St_drawOf (by omega) jR_z (by omega) (by omega) ?_
    have hR3 : jR (jaUI (jaUI S1 40 0 8 (jvZ (jvZ z))) 40 0 8 (jvZ (jvZ (jvZ z)))) (s, d, e) := jR_8 (jR_8 hR1)
    have z3 : (jaUI (jaUI S1 40 0 8 (jvZ (jvZ z))) 40 0 8 (jvZ (jvZ (jvZ z)))).1 40 0 8 = jvZ (jvZ (jvZ z)) := jR_z
    have l3 : (jaUI (jaUI S1 40 0 8 (jvZ (jvZ z))) 40 0 8 (jvZ (jvZ (jvZ z)))).2 = S.2 := l1
    generalize jaUI (jaUI S1 40 0 8 (jvZ (jvZ z))) 40 0 8 (jvZ (jvZ (jvZ z))) = S3 at *
    have o60 : S3.1 60 0 1 = nI (jz s 34) := hR3.o.2.1.trans hO.1
    have hq4 := jvQ_lt (z := jvZ (jvZ (jvZ z))) (show 0 < 4 by decide)
    simp (disch := first | omega | decide) only [jaU_eq, jaU_U, nI_add, pk_mul, jaIx_nI, vp_inT, true_and, and_true, ↓jaO0, ↓jaO1, nI_z, nI_z2, nI_z3, nI_z4, nI_z5, nI_lt', nI_le', nI_eq', jaUI_at, jaPt_eq, jaPt_ne, jaUI_o, jaUI_2, jaUL_at, jaUL_o, jaUL_1, jaB_z, jaB_1, ↓jaB_01, Classical.not_not, and_self, true_or, or_true, nI_11, Nat.reduceEqDiff, Nat.reduceAdd, Nat.reduceMul, Nat.add_zero, Nat.zero_add, Nat.mul_zero, not_true_eq_false, not_false_eq_true, false_implies, true_implies]
    refine ⟨fun q3 => ?_, fun q3 => ?_⟩
    · rw [jaIf1_f (fun x => q3 x.1)] at h
      exact h S3 hR3 z3 l3
    · obtain ⟨D2, rfl, hD2⟩ := jaSuc (show 1 ≤ D by omega)
      apply js_St_whyNotCrash
      simp (disch := first | omega | decide) only [jaU_eq, jaU_U, nI_add, pk_mul, jaIx_nI, vp_inT, true_and, and_true, ↓jaO0, ↓jaO1, nI_z, nI_z2, nI_z3, nI_z4, nI_z5, nI_lt', nI_le', nI_eq', jaUI_at, jaPt_eq, jaPt_ne, jaUI_o, jaUI_2, jaUL_at, jaUL_o, jaUL_1, jaB_z, jaB_1, ↓jaB_01, Classical.not_not, and_self, true_or, or_true, nI_11, Nat.reduceEqDiff, Nat.reduceAdd, Nat.reduceMul, Nat.add_zero, Nat.zero_add, Nat.mul_zero, not_true_eq_false, not_false_eq_true, false_implies, true_implies, o60]
      refine ⟨fun q4 => ?_, fun q4 => ?_⟩
      · rw [jaIf1_t (⟨q3, by omega⟩ : jvQ (jvZ (jvZ (jvZ z))) 4 = 0 ∧ 0 < jz s 34)] at h
        exact sp_St_crashCopy (by omega) hR3 hW hq2 (fun S4 a f => h S4 a (f.z.trans z3) (f.l.trans l3))
      · rw [jaIf1_f (fun x => by have := x.2; omega)] at h
        exact h S3 hR3 z3 l3
  · rw [jaIf1_f (fun x => by have := x.2.1; omega), jaIf1_f (by omega), jaIf1_f (fun x => by have := x.1; omega)] at h
    exact h S1 hR1 z1 l1
  · rw [jaIf1_f (fun x => by have := x.2.2; omega), jaIf1_f (by omega), jaIf1_f (fun x => by have := x.1; omega)] at h
    exact h S1 hR1 z1 l1
  · have hc : jvQ (jvZ z) 6 < 2 ∧ 0 < jz s 0 ∧ 0 < jz s 32 := ⟨by omega, by omega, by omega⟩
    rw [jaIf1_t hc] at h
    have hqs := jvQ_lt (z := jvZ (jvZ z)) hc.2.1
    refine sp_St_drawOf (by omega) z1 hc.2.1 (by omega) ?_
    have o54' : (jaUI S1 40 0 8 (jvZ (jvZ z))).1 54 0 0 = nI (jz s 32) := by rw [jaUI_o (by decide)]; exact o54
    simp (disch := first | omega | decide) only [jaU_eq, jaU_U, nI_add, pk_mul, jaIx_nI, vp_inT, true_and, and_true, ↓jaO0, ↓jaO1, nI_z, nI_z2, nI_z3, nI_z4, nI_z5, nI_lt', nI_le', nI_eq', jaUI_at, jaPt_eq, jaPt_ne, jaUI_o, jaUI_2, jaUL_at, jaUL_o, jaUL_1, jaB_z, jaB_1, ↓jaB_01, Classical.not_not, and_self, true_or, or_true, nI_11, Nat.reduceEqDiff, Nat.reduceAdd, Nat.reduceMul, Nat.add_zero, Nat.zero_add, Nat.mul_zero, not_true_eq_false, not_false_eq_true, false_implies, true_implies, o54]
    refine sp_St_drawOf (by omega) jR_z hc.2.2 (by omega) ?_
    have hR3 : jR (jaUI (jaUI S1 40 0 8 (jvZ (jvZ z))) 40 0 8 (jvZ (jvZ (jvZ z)))) (s, d, e) := jR_8 (jR_8 hR1)
    have z3 : (jaUI (jaUI S1 40 0 8 (jvZ (jvZ z))) 40 0 8 (jvZ (jvZ (jvZ z)))).1 40 0 8 = jvZ (jvZ (jvZ z)) := jR_z
    have l3 : (jaUI (jaUI S1 40 0 8 (jvZ (jvZ z))) 40 0 8 (jvZ (jvZ (jvZ z)))).2 = S.2 := l1
    generalize jaUI (jaUI S1 40 0 8 (jvZ (jvZ z))) 40 0 8 (jvZ (jvZ (jvZ z))) = S3 at *
    refine sp_St_putTrans (by omega) hR3 hW (by omega) (jvQ_lt hc.2.2) (fun q => ?_) (fun q S4 a f => ?_)
    · rw [jaIf1_f (by omega)] at h
      exact h S3 hR3 z3 l3
    · rw [jaIf1_t q] at h
      exact h S4 a (f.z.trans z3) (f.l.trans l3)
set_option maxHeartbeats 1000000 in
theorem sp_St_drawTicks {D : Nat} (hD : 8 ≤ D) {kk : jaT → Prop} {σ : jaT} {S : jaS} {x : jvX} {z : Int32} {k n : Nat} (hR : jR S x) (hW : jW3 x) (hn : n ≤ 60) (ht : jz x.1 31 ≤ 1000) (h : ∀ S', jR S' (jvDs (x, z) (min n (1000 - jz x.1 31))).1 → S'.2 = S.2 → kk (jaU σ k S')) : jaDe D jy_St_drawTicks [jcSt k, .inl (nI n), .inl z] (jaU σ k S) (jaKv kk) := by
  obtain ⟨D, rfl, hD⟩ := jaSuc hD
  apply js_St_drawTicks
  simp (disch := first | omega | decide) only [jaU_eq, jaU_U, nI_add, pk_mul, jaIx_nI, vp_inT, true_and, and_true, ↓jaO0, ↓jaO1, nI_z, nI_z2, nI_z3, nI_z4, nI_z5, nI_lt', nI_le', nI_eq', jaUI_at, jaPt_eq, jaPt_ne, jaUI_o, jaUI_2, jaUL_at, jaUL_o, jaUL_1, jaB_z, jaB_1, ↓jaB_01, Classical.not_not, and_self, true_or, or_true, nI_11, Nat.reduceEqDiff, Nat.reduceAdd, Nat.reduceMul, Nat.add_zero, Nat.zero_add, Nat.mul_zero, not_true_eq_false, not_false_eq_true, false_implies, true_implies]
  refine jaFor (C := fun c => ∀ S', jR S' (jvDs (x, z) c).1 → S'.1 40 0 8 = (jvDs (x, z) c).2 → S'.2 = S.2 → jc_St_drawTicks_1 D kk k (nI n) z (nI c) (jaU σ k S')) (N := min n (1000 - jz x.1 31)) ?_ (fun c hc ih => ?_) (jaUI S 40 0 8 z) (jR_8 hR) jR_z rfl
  · intro S' a g f
    obtain ⟨w1, w2, w3⟩ := jvDs_W hW (z := z) (min n (1000 - jz x.1 31)) (by omega)
    have h5 : S'.1 40 0 5 = nI (jz x.1 31 + min n (1000 - jz x.1 31)) := a.t.trans (w1.t.trans (by rw [w3]))
    apply jb_St_drawTicks_1
    simp (disch := first | omega | decide) only [jaU_eq, jaU_U, nI_add, pk_mul, jaIx_nI, vp_inT, true_and, and_true, ↓jaO0, ↓jaO1, nI_z, nI_z2, nI_z3, nI_z4, nI_z5, nI_lt', nI_le', nI_eq', jaUI_at, jaPt_eq, jaPt_ne, jaUI_o, jaUI_2, jaUL_at, jaUL_o, jaUL_1, jaB_z, jaB_1, ↓jaB_01, Classical.not_not, and_self, true_or, or_true, nI_11, Nat.reduceEqDiff, Nat.reduceAdd, Nat.reduceMul, Nat.add_zero, Nat.zero_add, Nat.mul_zero, not_true_eq_false, not_false_eq_true, false_implies, true_implies]
    refine ⟨fun _ => h S' a f, fun q => ?_⟩
    refine sp_St_ticksLeft (by omega) h5 (by omega) ?_
    simp (disch := first | omega | decide) only [jaU_eq, jaU_U, nI_add, pk_mul, jaIx_nI, vp_inT, true_and, and_true, ↓jaO0, ↓jaO1, nI_z, nI_z2, nI_z3, nI_z4, nI_z5, nI_lt', nI_le', nI_eq', jaUI_at, jaPt_eq, jaPt_ne, jaUI_o, jaUI_2, jaUL_at, jaUL_o, jaUL_1, jaB_z, jaB_1, ↓jaB_01, Classical.not_not, and_self, true_or, or_true, nI_11, Nat.reduceEqDiff, Nat.reduceAdd, Nat.reduceMul, Nat.add_zero, Nat.zero_add, Nat.mul_zero, not_true_eq_false, not_false_eq_true, false_implies, true_implies]
    refine ⟨fun _ => h S' a f, fun q2 => absurd q2 (by omega)⟩
  · intro S' a g f
    obtain ⟨w1, w2, w3⟩ := jvDs_W hW (z := z) c (by omega)
    have h5 : S'.1 40 0 5 = nI (jz x.1 31 + c) := a.t.trans (w1.t.trans (by rw [w3]))
    have hst : jvDs (x, z) (c + 1) = jvDs1 (jvDs (x, z) c) := rfl
    rw [hst] at ih
    generalize jvDs (x, z) c = y at *
    obtain ⟨y1, y2⟩ := y
    simp only [] at a g w1 w2 w3
    obtain ⟨v1, v2, v3⟩ := jvDeed_W w1 (z := y2)
    unfold jvDs1 at ih
    simp only [] at ih
    apply jb_St_drawTicks_1
    simp (disch := first | omega | decide) only [jaU_eq, jaU_U, nI_add, pk_mul, jaIx_nI, vp_inT, true_and, and_true, ↓jaO0, ↓jaO1, nI_z, nI_z2, nI_z3, nI_z4, nI_z5, nI_lt', nI_le', nI_eq', jaUI_at, jaPt_eq, jaPt_ne, jaUI_o, jaUI_2, jaUL_at, jaUL_o, jaUL_1, jaB_z, jaB_1, ↓jaB_01, Classical.not_not, and_self, true_or, or_true, nI_11, Nat.reduceEqDiff, Nat.reduceAdd, Nat.reduceMul, Nat.add_zero, Nat.zero_add, Nat.mul_zero, not_true_eq_false, not_false_eq_true, false_implies, true_implies]
    refine ⟨fun q => absurd q (by omega), fun _ => ?_⟩
    refine sp_St_ticksLeft (by omega) h5 (by omega) ?_
    simp (disch := first | omega | decide) only [jaU_eq, jaU_U, nI_add, pk_mul, jaIx_nI, vp_inT, true_and, and_true, ↓jaO0, ↓jaO1, nI_z, nI_z2, nI_z3, nI_z4, nI_z5, nI_lt', nI_le', nI_eq', jaUI_at, jaPt_eq, jaPt_ne, jaUI_o, jaUI_2, jaUL_at, jaUL_o, jaUL_1, jaB_z, jaB_1, ↓jaB_01, Classical.not_not, and_self, true_or, or_true, nI_11, Nat.reduceEqDiff, Nat.reduceAdd, Nat.reduceMul, Nat.add_zero, Nat.zero_add, Nat.mul_zero, not_true_eq_false, not_false_eq_true, false_implies, true_implies]
    refine ⟨fun q => absurd q (by omega), fun _ => ?_⟩
    refine sp_St_drawAct (by omega) a g w1 (fun S2 a2 g2 f2 => ?_)
    refine sp_St_passTick (by omega) a2 v1 (fun S3 a3 f3 => ?_)
    exact ih S3 a3 (f3.z.trans g2) (f3.l.trans (f2.trans f))
end
