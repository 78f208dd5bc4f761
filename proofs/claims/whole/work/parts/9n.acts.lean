section
/-! acts: check, crash, ticks, drawn, put -/
theorem jaAs {τ : jaT} {k : Nat} {B : jaS} (e : τ k = B) : τ = jaU τ k B := by rw [← e, jaU_self]
theorem jI_act2 {σ : jaT} {S1 T S2 S3 : jaS} {m q : Nat} {x' : jvX} {A F : List Nat} (h : jI σ) (hm : m ≤ 8) (hq : q < 8) (h9 : (σ 0).1 0 0 9 = nI m) (h8 : (σ 0).1 0 0 8 = nI q)
    (rT : jR T (jIx (σ 20))) (nT : ∀ i, i < 16 → T.2 35 0 i = (σ 1).2 35 0 i) (r1 : jR S1 x') (n1 : S1.2 = (σ 1).2)
    (w' : jW3 x') (K : jK3 (jIx (σ 20)) x') (t' : jz x'.1 31 ≤ 1000) (s83 : S2.1 83 0 = jvSt ((σ 20).1 72 0) ((σ 20).1 83 0) m) (s33 : S2.1 70 0 33 = nI (jvStM m)) (f2 : jaFr [83] [33] (jaUI (σ 20) 70 0 0 (nI 0)) S2)
    (b72 : S3.1 72 0 = x'.1) (b75 : S3.1 75 0 = x'.2.1) (b76 : S3.1 76 0 = x'.2.2) (f3 : jaFr A F S2 S3) (hA : ∀ o, o ∈ [71, 78, 79, 83, 86, 88, 91, 92, 93, 94, 95] → o ∉ A) (hF : ∀ j, j ∈ [2, 18, 33, 37, 38, 39, 43] → j ∉ F) : jI (jaU (jaU (jKt0 σ q m T) 1 S1) 20 S3) := by
  have f0 : jaFr [] [0] (σ 20) (jaUI (σ 20) 70 0 0 (nI 0)) := jaFr.rfl.uf (by decide)
  have f : jaFr (83 :: A) (0 :: 33 :: F) (σ 20) S3 := ((f0.mono (by simp) (by simp)).trans (f2.mono (by simp) (by simp))).trans (f3.mono (fun o ho => List.mem_cons_of_mem _ ho) (fun o ho => List.mem_cons_of_mem _ (List.mem_cons_of_mem _ ho)))
  refine jI_act1 h hm hq h9 h8 rT nT r1 n1 w' K t' b72 b75 b76 ?_ ?_ f (fun o ho hc => ?_) (fun j hj hc => ?_)
  · rw [f3.s 83 (hA 83 (by decide)) (by decide)]
    exact s83
  · rw [f3.f 33 (hF 33 (by decide))]
    exact s33
  · rcases List.mem_cons.mp hc with e | e
    · rw [e] at ho
      revert ho
      decide
    · exact hA o ((show ∀ o, o ∈ [71, 78, 79, 86, 88, 91, 92, 93, 94, 95] → o ∈ [71, 78, 79, 83, 86, 88, 91, 92, 93, 94, 95] by decide) o ho) e
  · rcases List.mem_cons.mp hc with e | e
    · rw [e] at hj
      revert hj
      decide
    · rcases List.mem_cons.mp e with e | e
      · rw [e] at hj
        revert hj
        decide
      · exact hF j ((show ∀ j, j ∈ [2, 18, 37, 38, 39, 43] → j ∈ [2, 18, 33, 37, 38, 39, 43] by decide) j hj) e
theorem jf_check : jFc jy_A_check jy_M_check [] := by
  intro σ hI
  have hR := hI.R
  have hW := hI.W
  have hI0 := jI_0 (v := nI 0) hI
  have ht := hI.2.1.2.2.1
  obtain ⟨m, q, hm, hq, h9, h8, h33, -, -⟩ := hI.2.2.1
  have k36 := hW.k.1
  have h10 := hW.w.2.1.2
  have e44 : (σ 1).1 44 0 0 = (σ 20).1 72 0 36 := hR.k.1
  apply js_A_check
  apply js_St_whyNotCheck
  rw [e44]
  rcases k36 with ⟨z36, -⟩ | ⟨z36, -⟩
  · rw [z36]
    refine ⟨fun _ => ⟨fun z => absurd rfl z, fun _ => ?_⟩, fun z => absurd rfl z⟩
    refine sp_A_keepState (by omega) hR hW hm hq h9 h8 (fun T rT nT => ?_)
    obtain ⟨p1, p2, p3⟩ := @jKt0_n σ q m T
    rw [jaAs (p1 1 (by decide) (by omega))]
    refine sp_St_beginCheck (by omega) hR hW z36 (fun S1 r1 e1 => ?_)
    have e20 : jaU (jKt0 σ q m T) 1 S1 20 = σ 20 := by rw [jaU_ne (by decide), p1 20 (by decide) (by omega)]
    refine jaAk (k := 20) (B := σ 20) (P := fun τ => jaDe 12 jy_M_check [jaMo] τ (jaKi fun b σ2 => nI 0 = b ∧ jI σ2)) e20 ?_
    apply js_M_check
    simp (disch := first | omega | decide) only [jaU_eq, jaU_U, nI_add, pk_mul, jaIx_nI, vp_inT, true_and, and_true, ↓jaO0, ↓jaO1, nI_z, nI_z2, nI_z3, nI_z4, nI_z5, nI_lt', nI_le', nI_eq', jaUI_at, jaPt_eq, jaPt_ne, jaUI_o, jaUI_2, jaUL_at, jaUL_o, jaUL_1, jaB_z, jaB_1, ↓jaB_01, Classical.not_not, and_self, true_or, or_true, nI_11, Nat.reduceEqDiff, Nat.reduceAdd, Nat.reduceMul, Nat.add_zero, Nat.zero_add, Nat.mul_zero, not_true_eq_false, not_false_eq_true, false_implies, true_implies, z36]
    refine sp_M_stores (s := (σ 20).1 72 0) (u := (σ 20).1 83 0) (m := m) (by omega) (by simp (disch := first | omega | decide) only [jaU_eq, jaU_U, nI_add, pk_mul, jaIx_nI, vp_inT, true_and, and_true, ↓jaO0, ↓jaO1, nI_z, nI_z2, nI_z3, nI_z4, nI_z5, nI_lt', nI_le', nI_eq', jaUI_at, jaPt_eq, jaPt_ne, jaUI_o, jaUI_2, jaUL_at, jaUL_o, jaUL_1, jaB_z, jaB_1, ↓jaB_01, Classical.not_not, and_self, true_or, or_true, nI_11, Nat.reduceEqDiff, Nat.reduceAdd, Nat.reduceMul, Nat.add_zero, Nat.zero_add, Nat.mul_zero, not_true_eq_false, not_false_eq_true, false_implies, true_implies]) (by simp (disch := first | omega | decide) only [jaU_eq, jaU_U, nI_add, pk_mul, jaIx_nI, vp_inT, true_and, and_true, ↓jaO0, ↓jaO1, nI_z, nI_z2, nI_z3, nI_z4, nI_z5, nI_lt', nI_le', nI_eq', jaUI_at, jaPt_eq, jaPt_ne, jaUI_o, jaUI_2, jaUL_at, jaUL_o, jaUL_1, jaB_z, jaB_1, ↓jaB_01, Classical.not_not, and_self, true_or, or_true, nI_11, Nat.reduceEqDiff, Nat.reduceAdd, Nat.reduceMul, Nat.add_zero, Nat.zero_add, Nat.mul_zero, not_true_eq_false, not_false_eq_true, false_implies, true_implies]) (by simp (disch := first | omega | decide) only [jaU_eq, jaU_U, nI_add, pk_mul, jaIx_nI, vp_inT, true_and, and_true, ↓jaO0, ↓jaO1, nI_z, nI_z2, nI_z3, nI_z4, nI_z5, nI_lt', nI_le', nI_eq', jaUI_at, jaPt_eq, jaPt_ne, jaUI_o, jaUI_2, jaUL_at, jaUL_o, jaUL_1, jaB_z, jaB_1, ↓jaB_01, Classical.not_not, and_self, true_or, or_true, nI_11, Nat.reduceEqDiff, Nat.reduceAdd, Nat.reduceMul, Nat.add_zero, Nat.zero_add, Nat.mul_zero, not_true_eq_false, not_false_eq_true, false_implies, true_implies, h33]) hm (fun S2 s83 s33 f2 => ?_)
    have g72 : S2.1 72 0 = (σ 20).1 72 0 := by
      rw [f2.s 72 (by decide) (by decide)]
      simp (disch := first | omega | decide) only [jaU_eq, jaU_U, nI_add, pk_mul, jaIx_nI, vp_inT, true_and, and_true, ↓jaO0, ↓jaO1, nI_z, nI_z2, nI_z3, nI_z4, nI_z5, nI_lt', nI_le', nI_eq', jaUI_at, jaPt_eq, jaPt_ne, jaUI_o, jaUI_2, jaUL_at, jaUL_o, jaUL_1, jaB_z, jaB_1, ↓jaB_01, Classical.not_not, and_self, true_or, or_true, nI_11, Nat.reduceEqDiff, Nat.reduceAdd, Nat.reduceMul, Nat.add_zero, Nat.zero_add, Nat.mul_zero, not_true_eq_false, not_false_eq_true, false_implies, true_implies]
    have g75 : S2.1 75 0 = (σ 20).1 75 0 := by
      rw [f2.s 75 (by decide) (by decide)]
      simp (disch := first | omega | decide) only [jaU_eq, jaU_U, nI_add, pk_mul, jaIx_nI, vp_inT, true_and, and_true, ↓jaO0, ↓jaO1, nI_z, nI_z2, nI_z3, nI_z4, nI_z5, nI_lt', nI_le', nI_eq', jaUI_at, jaPt_eq, jaPt_ne, jaUI_o, jaUI_2, jaUL_at, jaUL_o, jaUL_1, jaB_z, jaB_1, ↓jaB_01, Classical.not_not, and_self, true_or, or_true, nI_11, Nat.reduceEqDiff, Nat.reduceAdd, Nat.reduceMul, Nat.add_zero, Nat.zero_add, Nat.mul_zero, not_true_eq_false, not_false_eq_true, false_implies, true_implies]
    have g76 : S2.1 76 0 = (σ 20).1 76 0 := by
      rw [f2.s 76 (by decide) (by decide)]
      simp (disch := first | omega | decide) only [jaU_eq, jaU_U, nI_add, pk_mul, jaIx_nI, vp_inT, true_and, and_true, ↓jaO0, ↓jaO1, nI_z, nI_z2, nI_z3, nI_z4, nI_z5, nI_lt', nI_le', nI_eq', jaUI_at, jaPt_eq, jaPt_ne, jaUI_o, jaUI_2, jaUL_at, jaUL_o, jaUL_1, jaB_z, jaB_1, ↓jaB_01, Classical.not_not, and_self, true_or, or_true, nI_11, Nat.reduceEqDiff, Nat.reduceAdd, Nat.reduceMul, Nat.add_zero, Nat.zero_add, Nat.mul_zero, not_true_eq_false, not_false_eq_true, false_implies, true_implies]
    refine sp_M_checks (by omega) g72 hW.w (fun S3 s72 f3 => ?_)
    exact jI_act2 (x' := (jvCh ((σ 20).1 72 0), (σ 20).1 75 0, (σ 20).1 76 0)) hI hm hq h9 h8 rT nT r1 (congrArg Prod.fst e1) (jvCh_W hW z36) (jK3_s (fun j hj => jvCh_n h10 (by omega))) (by rw [jz_c (jvCh_n h10 (by omega))]; exact ht) s83 s33 f2 s72 ((congrFun (f3.s 75 (by decide) (by decide)) 0).trans g75) ((congrFun (f3.s 76 (by decide) (by decide)) 0).trans g76) f3 (by decide) (by decide)
  · rw [z36]
    refine ⟨fun z => absurd z (by decide), fun _ => ⟨fun _ => ?_, fun z => absurd z (by decide)⟩⟩
    apply js_M_check
    simp (disch := first | omega | decide) only [jaU_eq, jaU_U, nI_add, pk_mul, jaIx_nI, vp_inT, true_and, and_true, ↓jaO0, ↓jaO1, nI_z, nI_z2, nI_z3, nI_z4, nI_z5, nI_lt', nI_le', nI_eq', jaUI_at, jaPt_eq, jaPt_ne, jaUI_o, jaUI_2, jaUL_at, jaUL_o, jaUL_1, jaB_z, jaB_1, ↓jaB_01, Classical.not_not, and_self, true_or, or_true, nI_11, Nat.reduceEqDiff, Nat.reduceAdd, Nat.reduceMul, Nat.add_zero, Nat.zero_add, Nat.mul_zero, not_true_eq_false, not_false_eq_true, false_implies, true_implies, z36]
    exact hI0
theorem jf_crash {x1 : Int32} : jFc jy_A_crash jy_M_crash [.inl x1] := by
  intro σ hI
  have hR := hI.R
  have hW := hI.W
  have hI0 := jI_0 (v := nI 0) hI
  have ht := hI.2.1.2.2.1
  obtain ⟨m, q, hm, hq, h9, h8, h33, -, -⟩ := hI.2.2.1
  have h34 := hW.o.ord
  have h2 := hW.w.2.2.1
  have e30 : (σ 1).1 30 0 2 = nI (jz ((σ 20).1 72 0) 2) := hR.w.1.2.2.1.trans h2.1
  have e60 : (σ 1).1 60 0 1 = nI (jz ((σ 20).1 72 0) 34) := hR.o.2.1.trans h34.1
  have s0 : (jaUI (σ 20) 70 0 0 (nI 0)).1 72 0 = (σ 20).1 72 0 := by simp (disch := first | omega | decide) only [jaU_eq, jaU_U, nI_add, pk_mul, jaIx_nI, vp_inT, true_and, and_true, ↓jaO0, ↓jaO1, nI_z, nI_z2, nI_z3, nI_z4, nI_z5, nI_lt', nI_le', nI_eq', jaUI_at, jaPt_eq, jaPt_ne, jaUI_o, jaUI_2, jaUL_at, jaUL_o, jaUL_1, jaB_z, jaB_1, ↓jaB_01, Classical.not_not, and_self, true_or, or_true, nI_11, Nat.reduceEqDiff, Nat.reduceAdd, Nat.reduceMul, Nat.add_zero, Nat.zero_add, Nat.mul_zero, not_true_eq_false, not_false_eq_true, false_implies, true_implies]
  apply js_A_crash
  rw [e30]
  by_cases c : ∃ q, q < jz ((σ 20).1 72 0) 2 ∧ x1 = nI q
  · obtain ⟨c, hc, rfl⟩ := c
    refine ⟨fun z => absurd z (by rw [show (0 : Int32) = nI 0 from rfl, nI_lt' (by omega) (by omega)]; omega), fun _ => ⟨fun _ => ?_, fun z => absurd (by rw [nI_lt' (by omega) (by omega)]; omega) z⟩⟩
    apply js_St_whyNotCrash
    rw [e60]
    by_cases z34 : jz ((σ 20).1 72 0) 34 = 0
    · rw [z34]
      refine ⟨fun z => absurd rfl z, fun _ => ⟨fun _ => ?_, fun z => absurd z (by decide)⟩⟩
      apply js_M_crash
      refine sp_M_isCopy (by omega) s0 h2.1 (by omega) ?_
      rw [jaB_t ⟨c, hc, rfl⟩]
      have h34' := h34.1
      rw [z34] at h34'
      simp (disch := first | omega | decide) only [jaU_eq, jaU_U, nI_add, pk_mul, jaIx_nI, vp_inT, true_and, and_true, ↓jaO0, ↓jaO1, nI_z, nI_z2, nI_z3, nI_z4, nI_z5, nI_lt', nI_le', nI_eq', jaUI_at, jaPt_eq, jaPt_ne, jaUI_o, jaUI_2, jaUL_at, jaUL_o, jaUL_1, jaB_z, jaB_1, ↓jaB_01, Classical.not_not, and_self, true_or, or_true, nI_11, Nat.reduceEqDiff, Nat.reduceAdd, Nat.reduceMul, Nat.add_zero, Nat.zero_add, Nat.mul_zero, not_true_eq_false, not_false_eq_true, false_implies, true_implies, h34']
      exact hI0
    · refine ⟨fun _ => ⟨fun z => absurd rfl z, fun _ => ?_⟩, fun z => absurd z (by rw [show (0 : Int32) = nI 0 from rfl, nI_eq' (by omega) (by omega)]; omega)⟩
      refine sp_A_keepState (by omega) hR hW hm hq h9 h8 (fun T rT nT => ?_)
      obtain ⟨p1, p2, p3⟩ := @jKt0_n σ q m T
      rw [jaAs (p1 1 (by decide) (by omega))]
      refine sp_St_crashCopy (by omega) hR hW hc (fun S1 r1 e1 => ?_)
      have e20 : jaU (jKt0 σ q m T) 1 S1 20 = σ 20 := by rw [jaU_ne (by decide), p1 20 (by decide) (by omega)]
      refine jaAk (k := 20) (B := σ 20) (P := fun τ => jaDe 12 jy_M_crash [jaMo, .inl (nI c)] τ (jaKi fun b σ2 => nI 0 = b ∧ jI σ2)) e20 ?_
      apply js_M_crash
      simp (disch := first | omega | decide) only [jaU_eq, jaU_U, nI_add, pk_mul, jaIx_nI, vp_inT, true_and, and_true, ↓jaO0, ↓jaO1, nI_z, nI_z2, nI_z3, nI_z4, nI_z5, nI_lt', nI_le', nI_eq', jaUI_at, jaPt_eq, jaPt_ne, jaUI_o, jaUI_2, jaUL_at, jaUL_o, jaUL_1, jaB_z, jaB_1, ↓jaB_01, Classical.not_not, and_self, true_or, or_true, nI_11, Nat.reduceEqDiff, Nat.reduceAdd, Nat.reduceMul, Nat.add_zero, Nat.zero_add, Nat.mul_zero, not_true_eq_false, not_false_eq_true, false_implies, true_implies]
      refine sp_M_isCopy (by omega) s0 h2.1 (by omega) ?_
      rw [jaB_t ⟨c, hc, rfl⟩]
      have h34' := h34.1
      simp (disch := first | omega | decide) only [jaU_eq, jaU_U, nI_add, pk_mul, jaIx_nI, vp_inT, true_and, and_true, ↓jaO0, ↓jaO1, nI_z, nI_z2, nI_z3, nI_z4, nI_z5, nI_lt', nI_le', nI_eq', jaUI_at, jaPt_eq, jaPt_ne, jaUI_o, jaUI_2, jaUL_at, jaUL_o, jaUL_1, jaB_z, jaB_1, ↓jaB_01, Classical.not_not, and_self, true_or, or_true, nI_11, Nat.reduceEqDiff, Nat.reduceAdd, Nat.reduceMul, Nat.add_zero, Nat.zero_add, Nat.mul_zero, not_true_eq_false, not_false_eq_true, false_implies, true_implies, h34', z34]
      refine sp_M_stores (s := (σ 20).1 72 0) (u := (σ 20).1 83 0) (m := m) (by omega) (by simp (disch := first | omega | decide) only [jaU_eq, jaU_U, nI_add, pk_mul, jaIx_nI, vp_inT, true_and, and_true, ↓jaO0, ↓jaO1, nI_z, nI_z2, nI_z3, nI_z4, nI_z5, nI_lt', nI_le', nI_eq', jaUI_at, jaPt_eq, jaPt_ne, jaUI_o, jaUI_2, jaUL_at, jaUL_o, jaUL_1, jaB_z, jaB_1, ↓jaB_01, Classical.not_not, and_self, true_or, or_true, nI_11, Nat.reduceEqDiff, Nat.reduceAdd, Nat.reduceMul, Nat.add_zero, Nat.zero_add, Nat.mul_zero, not_true_eq_false, not_false_eq_true, false_implies, true_implies]) (by simp (disch := first | omega | decide) only [jaU_eq, jaU_U, nI_add, pk_mul, jaIx_nI, vp_inT, true_and, and_true, ↓jaO0, ↓jaO1, nI_z, nI_z2, nI_z3, nI_z4, nI_z5, nI_lt', nI_le', nI_eq', jaUI_at, jaPt_eq, jaPt_ne, jaUI_o, jaUI_2, jaUL_at, jaUL_o, jaUL_1, jaB_z, jaB_1, ↓jaB_01, Classical.not_not, and_self, true_or, or_true, nI_11, Nat.reduceEqDiff, Nat.reduceAdd, Nat.reduceMul, Nat.add_zero, Nat.zero_add, Nat.mul_zero, not_true_eq_false, not_false_eq_true, false_implies, true_implies]) (by simp (disch := first | omega | decide) only [jaU_eq, jaU_U, nI_add, pk_mul, jaIx_nI, vp_inT, true_and, and_true, ↓jaO0, ↓jaO1, nI_z, nI_z2, nI_z3, nI_z4, nI_z5, nI_lt', nI_le', nI_eq', jaUI_at, jaPt_eq, jaPt_ne, jaUI_o, jaUI_2, jaUL_at, jaUL_o, jaUL_1, jaB_z, jaB_1, ↓jaB_01, Classical.not_not, and_self, true_or, or_true, nI_11, Nat.reduceEqDiff, Nat.reduceAdd, Nat.reduceMul, Nat.add_zero, Nat.zero_add, Nat.mul_zero, not_true_eq_false, not_false_eq_true, false_implies, true_implies, h33]) hm (fun S2 s83 s33 f2 => ?_)
      have g72 : S2.1 72 0 = (σ 20).1 72 0 := by
        rw [f2.s 72 (by decide) (by decide)]
        simp (disch := first | omega | decide) only [jaU_eq, jaU_U, nI_add, pk_mul, jaIx_nI, vp_inT, true_and, and_true, ↓jaO0, ↓jaO1, nI_z, nI_z2, nI_z3, nI_z4, nI_z5, nI_lt', nI_le', nI_eq', jaUI_at, jaPt_eq, jaPt_ne, jaUI_o, jaUI_2, jaUL_at, jaUL_o, jaUL_1, jaB_z, jaB_1, ↓jaB_01, Classical.not_not, and_self, true_or, or_true, nI_11, Nat.reduceEqDiff, Nat.reduceAdd, Nat.reduceMul, Nat.add_zero, Nat.zero_add, Nat.mul_zero, not_true_eq_false, not_false_eq_true, false_implies, true_implies]
      have g75 : S2.1 75 0 = (σ 20).1 75 0 := by
        rw [f2.s 75 (by decide) (by decide)]
        simp (disch := first | omega | decide) only [jaU_eq, jaU_U, nI_add, pk_mul, jaIx_nI, vp_inT, true_and, and_true, ↓jaO0, ↓jaO1, nI_z, nI_z2, nI_z3, nI_z4, nI_z5, nI_lt', nI_le', nI_eq', jaUI_at, jaPt_eq, jaPt_ne, jaUI_o, jaUI_2, jaUL_at, jaUL_o, jaUL_1, jaB_z, jaB_1, ↓jaB_01, Classical.not_not, and_self, true_or, or_true, nI_11, Nat.reduceEqDiff, Nat.reduceAdd, Nat.reduceMul, Nat.add_zero, Nat.zero_add, Nat.mul_zero, not_true_eq_false, not_false_eq_true, false_implies, true_implies]
      have g76 : S2.1 76 0 = (σ 20).1 76 0 := by
        rw [f2.s 76 (by decide) (by decide)]
        simp (disch := first | omega | decide) only [jaU_eq, jaU_U, nI_add, pk_mul, jaIx_nI, vp_inT, true_and, and_true, ↓jaO0, ↓jaO1, nI_z, nI_z2, nI_z3, nI_z4, nI_z5, nI_lt', nI_le', nI_eq', jaUI_at, jaPt_eq, jaPt_ne, jaUI_o, jaUI_2, jaUL_at, jaUL_o, jaUL_1, jaB_z, jaB_1, ↓jaB_01, Classical.not_not, and_self, true_or, or_true, nI_11, Nat.reduceEqDiff, Nat.reduceAdd, Nat.reduceMul, Nat.add_zero, Nat.zero_add, Nat.mul_zero, not_true_eq_false, not_false_eq_true, false_implies, true_implies]
      refine sp_M_crashes (by omega) g72 (by omega) (fun S3 s72 f3 => ?_)
      exact jI_act2 (x' := (jvCr ((σ 20).1 72 0) c, (σ 20).1 75 0, (σ 20).1 76 0)) hI hm hq h9 h8 rT nT r1 (congrArg Prod.fst e1) (jvCr_W hW (by omega)) (jK3_s (fun j hj => jvCr_n (by omega) (by omega))) (by rw [jz_c (jvCr_n (by omega) (by omega))]; exact ht) s83 s33 f2 s72 ((congrFun (f3.s 75 (by decide) (by decide)) 0).trans g75) ((congrFun (f3.s 76 (by decide) (by decide)) 0).trans g76) f3 (by decide) (by decide)
  · have M0 : jaDe 12 jy_M_crash [jaMo, .inl x1] σ (jaKi fun b σ2 => (-1 : Int32) = b ∧ jI σ2) := by
      apply js_M_crash
      refine sp_M_isCopy (by omega) s0 h2.1 (by omega) ?_
      rw [jaB_f c]
      exact ⟨fun z => absurd rfl z, fun _ => ⟨rfl, hI0⟩⟩
    exact ⟨fun _ => M0, fun y => ⟨fun z => absurd ((jxInC (by omega)).mp ⟨y, fun u => by
      rw [Int32.le_iff_toInt_le] at u
      rw [Int32.lt_iff_toInt_lt] at z
      omega⟩) c, fun _ => M0⟩⟩
end
