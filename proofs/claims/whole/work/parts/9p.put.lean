section
/-! acts, on: put -/
set_option maxHeartbeats 1000000 in
theorem jf_put {x1 x2 : Int32} : jFc jy_A_put jy_M_put [.inl x1, .inl x2] := by
  intro σ hI
  have hR := hI.R
  have hW := hI.W
  have hI0 := jI_0 (v := nI 0) hI
  have ht := hI.2.1.2.2.1
  obtain ⟨m, q, hm, hq, h9, h8, h33, -, -⟩ := hI.2.2.1
  have hW3 : jW3 (jIx (σ 20)) := hW
  have h0 := hW.w.1
  have h32 := hW.o.many
  have e30 : (σ 1).1 30 0 0 = nI (jz ((σ 20).1 72 0) 0) := hR.w.1.1.trans h0.1
  have e54 : (σ 1).1 54 0 0 = nI (jz ((σ 20).1 72 0) 32) := hR.s.1.trans h32.1
  have s0 : (jaUI (σ 20) 70 0 0 (nI 0)).1 72 0 = (σ 20).1 72 0 := by simp (disch := first | omega | decide) only [jaU_eq, jaU_U, nI_add, pk_mul, jaIx_nI, vp_inT, true_and, and_true, ↓jaO0, ↓jaO1, nI_z, nI_z2, nI_z3, nI_z4, nI_z5, nI_lt', nI_le', nI_eq', jaUI_at, jaPt_eq, jaPt_ne, jaUI_o, jaUI_2, jaUL_at, jaUL_o, jaUL_1, jaB_z, jaB_1, ↓jaB_01, Classical.not_not, and_self, true_or, or_true, nI_11, Nat.reduceEqDiff, Nat.reduceAdd, Nat.reduceMul, Nat.add_zero, Nat.zero_add, Nat.mul_zero, not_true_eq_false, not_false_eq_true, false_implies, true_implies]
  have M0 : ((¬ ∃ q, q < jz ((σ 20).1 72 0) 0 ∧ x1 = nI q) ∨ ¬ ∃ q, q < jz ((σ 20).1 72 0) 32 ∧ x2 = nI q) → jaDe 12 jy_M_put [jaMo, .inl x1, .inl x2] σ (jaKi fun b σ2 => (-1 : Int32) = b ∧ jI σ2) := by
    intro c
    apply js_M_put
    refine sp_M_isSite (by omega) s0 h0.1 (by omega) ⟨fun _ => ⟨rfl, hI0⟩, fun z => sp_M_isTrans (by omega) s0 h32.1 (by omega) ⟨fun y => ?_, fun _ => ⟨rfl, hI0⟩⟩⟩
    rw [jaB_z, Classical.not_not] at z y
    exact absurd c (by simp only [z, y, not_true_eq_false, or_self, not_false_eq_true])
  apply js_A_put
  rw [e30, e54]
  by_cases c : (∃ q, q < jz ((σ 20).1 72 0) 0 ∧ x1 = nI q) ∧ ∃ q, q < jz ((σ 20).1 72 0) 32 ∧ x2 = nI q
  · obtain ⟨⟨x, hx, rfl⟩, n, hn, rfl⟩ := c
    have z0 : ∀ y : Nat, y < 100 → ¬ nI y < 0 := fun y hy => by
      rw [show (0 : Int32) = nI 0 from rfl, nI_lt' (by omega) (by omega)]
      omega
    refine ⟨fun z => absurd z (z0 x (by omega)), fun _ => ⟨fun z => absurd z (by rw [nI_le' (by omega) (by omega)]; omega), fun _ => ⟨fun z => absurd z (z0 n (by omega)), fun _ => ⟨fun _ => ?_, fun z => absurd (by rw [nI_lt' (by omega) (by omega)]; omega) z⟩⟩⟩⟩
    apply js_St_whyNotPut
    refine ⟨fun z => absurd z (z0 n (by omega)), fun _ => ⟨fun _ => ?_, fun z => absurd (by rw [e54, nI_lt' (by omega) (by omega)]; omega) z⟩⟩
    have F := sp_Sc_isFull (D := 31) (σ := σ) (S := σ 1) (k := 1) (kk := fun r2 σ1 => (r2 = 0 → (¬ nI 0 = 0 → jaDe 12 jy_M_put [jaMo, .inl (nI x), .inl (nI n)] σ1 (jaKi fun b σ2 => nI 0 = b ∧ jI σ2)) ∧ (nI 0 = 0 → jaDe 32 jy_A_keepState [jcA] σ1 (jaKv fun σ3 => jaDe 32 jy_St_putTrans [jcSt 1, .inl (nI x), .inl (nI n)] σ3 (jaKv fun σ4 => jaDe 12 jy_M_put [jaMo, .inl (nI x), .inl (nI n)] σ4 (jaKi fun b σ2 => nI 0 = b ∧ jI σ2))))) ∧ (¬ r2 = 0 → (¬ nI 1 = 0 → jaDe 12 jy_M_put [jaMo, .inl (nI x), .inl (nI n)] σ1 (jaKi fun b σ2 => nI 1 = b ∧ jI σ2)) ∧ (nI 1 = 0 → jaDe 32 jy_A_keepState [jcA] σ1 (jaKv fun σ3 => jaDe 32 jy_St_putTrans [jcSt 1, .inl (nI x), .inl (nI n)] σ3 (jaKv fun σ4 => jaDe 12 jy_M_put [jaMo, .inl (nI x), .inl (nI n)] σ4 (jaKi fun b σ2 => nI 1 = b ∧ jI σ2)))))) (by omega) e54 (by omega) ?_
    · rw [jaU_self] at F
      exact F
    rw [jaU_self]
    by_cases f24 : jz ((σ 20).1 72 0) 32 = 24
    · refine ⟨fun z => absurd (by rwa [jaB_z, Classical.not_not] at z) (show ¬ jz ((σ 20).1 72 0) 32 < 24 by omega), fun _ => ⟨fun _ => ?_, fun z => absurd z (by decide)⟩⟩
      have h32' := h32.1
      rw [f24] at h32'
      apply js_M_put
      refine sp_M_isSite (by omega) s0 h0.1 (by omega) ?_
      rw [jaB_t ⟨x, hx, rfl⟩]
      refine ⟨fun z => absurd z (by decide), fun _ => sp_M_isTrans (by omega) s0 h32.1 (by omega) ?_⟩
      rw [jaB_t ⟨n, hn, rfl⟩]
      simp (disch := first | omega | decide) only [jaU_eq, jaU_U, nI_add, pk_mul, jaIx_nI, vp_inT, true_and, and_true, ↓jaO0, ↓jaO1, nI_z, nI_z2, nI_z3, nI_z4, nI_z5, nI_lt', nI_le', nI_eq', jaUI_at, jaPt_eq, jaPt_ne, jaUI_o, jaUI_2, jaUL_at, jaUL_o, jaUL_1, jaB_z, jaB_1, ↓jaB_01, Classical.not_not, and_self, true_or, or_true, nI_11, Nat.reduceEqDiff, Nat.reduceAdd, Nat.reduceMul, Nat.add_zero, Nat.zero_add, Nat.mul_zero, not_true_eq_false, not_false_eq_true, false_implies, true_implies, h32']
      exact hI0
    · refine ⟨fun _ => ⟨fun z => absurd rfl z, fun _ => ?_⟩, fun z => absurd (show jz ((σ 20).1 72 0) 32 < 24 by omega) (by rwa [jaB_z, Classical.not_not] at z)⟩
      refine sp_A_keepState (by omega) hR hW hm hq h9 h8 (fun T rT nT => ?_)
      obtain ⟨p1, p2, p3⟩ := @jKt0_n σ q m T
      rw [jaAs (p1 1 (by decide) (by omega))]
      refine sp_St_putTrans (by omega) hR hW (by omega) hn (fun z => absurd z f24) (fun h24 S1 r1 e1 => ?_)
      have e20 : jaU (jKt0 σ q m T) 1 S1 20 = σ 20 := by rw [jaU_ne (by decide), p1 20 (by decide) (by omega)]
      refine jaAk (k := 20) (B := σ 20) (P := fun τ => jaDe 12 jy_M_put [jaMo, .inl (nI x), .inl (nI n)] τ (jaKi fun b σ2 => nI 0 = b ∧ jI σ2)) e20 ?_
      apply js_M_put
      simp (disch := first | omega | decide) only [jaU_eq, jaU_U, nI_add, pk_mul, jaIx_nI, vp_inT, true_and, and_true, ↓jaO0, ↓jaO1, nI_z, nI_z2, nI_z3, nI_z4, nI_z5, nI_lt', nI_le', nI_eq', jaUI_at, jaPt_eq, jaPt_ne, jaUI_o, jaUI_2, jaUL_at, jaUL_o, jaUL_1, jaB_z, jaB_1, ↓jaB_01, Classical.not_not, and_self, true_or, or_true, nI_11, Nat.reduceEqDiff, Nat.reduceAdd, Nat.reduceMul, Nat.add_zero, Nat.zero_add, Nat.mul_zero, not_true_eq_false, not_false_eq_true, false_implies, true_implies]
      refine sp_M_isSite (by omega) s0 h0.1 (by omega) ?_
      rw [jaB_t ⟨x, hx, rfl⟩]
      refine ⟨fun z => absurd z (by decide), fun _ => sp_M_isTrans (by omega) s0 h32.1 (by omega) ?_⟩
      rw [jaB_t ⟨n, hn, rfl⟩]
      have h32' := h32.1
      simp (disch := first | omega | decide) only [jaU_eq, jaU_U, nI_add, pk_mul, jaIx_nI, vp_inT, true_and, and_true, ↓jaO0, ↓jaO1, nI_z, nI_z2, nI_z3, nI_z4, nI_z5, nI_lt', nI_le', nI_eq', jaUI_at, jaPt_eq, jaPt_ne, jaUI_o, jaUI_2, jaUL_at, jaUL_o, jaUL_1, jaB_z, jaB_1, ↓jaB_01, Classical.not_not, and_self, true_or, or_true, nI_11, Nat.reduceEqDiff, Nat.reduceAdd, Nat.reduceMul, Nat.add_zero, Nat.zero_add, Nat.mul_zero, not_true_eq_false, not_false_eq_true, false_implies, true_implies, h32', f24]
      refine sp_M_stores (s := (σ 20).1 72 0) (u := (σ 20).1 83 0) (m := m) (by omega) (by simp (disch := first | omega | decide) only [jaU_eq, jaU_U, nI_add, pk_mul, jaIx_nI, vp_inT, true_and, and_true, ↓jaO0, ↓jaO1, nI_z, nI_z2, nI_z3, nI_z4, nI_z5, nI_lt', nI_le', nI_eq', jaUI_at, jaPt_eq, jaPt_ne, jaUI_o, jaUI_2, jaUL_at, jaUL_o, jaUL_1, jaB_z, jaB_1, ↓jaB_01, Classical.not_not, and_self, true_or, or_true, nI_11, Nat.reduceEqDiff, Nat.reduceAdd, Nat.reduceMul, Nat.add_zero, Nat.zero_add, Nat.mul_zero, not_true_eq_false, not_false_eq_true, false_implies, true_implies]) (by simp (disch := first | omega | decide) only [jaU_eq, jaU_U, nI_add, pk_mul, jaIx_nI, vp_inT, true_and, and_true, ↓jaO0, ↓jaO1, nI_z, nI_z2, nI_z3, nI_z4, nI_z5, nI_lt', nI_le', nI_eq', jaUI_at, jaPt_eq, jaPt_ne, jaUI_o, jaUI_2, jaUL_at, jaUL_o, jaUL_1, jaB_z, jaB_1, ↓jaB_01, Classical.not_not, and_self, true_or, or_true, nI_11, Nat.reduceEqDiff, Nat.reduceAdd, Nat.reduceMul, Nat.add_zero, Nat.zero_add, Nat.mul_zero, not_true_eq_false, not_false_eq_true, false_implies, true_implies]) (by simp (disch := first | omega | decide) only [jaU_eq, jaU_U, nI_add, pk_mul, jaIx_nI, vp_inT, true_and, and_true, ↓jaO0, ↓jaO1, nI_z, nI_z2, nI_z3, nI_z4, nI_z5, nI_lt', nI_le', nI_eq', jaUI_at, jaPt_eq, jaPt_ne, jaUI_o, jaUI_2, jaUL_at, jaUL_o, jaUL_1, jaB_z, jaB_1, ↓jaB_01, Classical.not_not, and_self, true_or, or_true, nI_11, Nat.reduceEqDiff, Nat.reduceAdd, Nat.reduceMul, Nat.add_zero, Nat.zero_add, Nat.mul_zero, not_true_eq_false, not_false_eq_true, false_implies, true_implies, h33]) hm (fun S2 s83 s33 f2 => ?_)
      have g72 : S2.1 72 0 = (σ 20).1 72 0 := by
        rw [f2.s 72 (by decide) (by decide)]
        simp (disch := first | omega | decide) only [jaU_eq, jaU_U, nI_add, pk_mul, jaIx_nI, vp_inT, true_and, and_true, ↓jaO0, ↓jaO1, nI_z, nI_z2, nI_z3, nI_z4, nI_z5, nI_lt', nI_le', nI_eq', jaUI_at, jaPt_eq, jaPt_ne, jaUI_o, jaUI_2, jaUL_at, jaUL_o, jaUL_1, jaB_z, jaB_1, ↓jaB_01, Classical.not_not, and_self, true_or, or_true, nI_11, Nat.reduceEqDiff, Nat.reduceAdd, Nat.reduceMul, Nat.add_zero, Nat.zero_add, Nat.mul_zero, not_true_eq_false, not_false_eq_true, false_implies, true_implies]
      have g75 : S2.1 75 0 = (σ 20).1 75 0 := by
        rw [f2.s 75 (by decide) (by decide)]
        simp (disch := first | omega | decide) only [jaU_eq, jaU_U, nI_add, pk_mul, jaIx_nI, vp_inT, true_and, and_true, ↓jaO0, ↓jaO1, nI_z, nI_z2, nI_z3, nI_z4, nI_z5, nI_lt', nI_le', nI_eq', jaUI_at, jaPt_eq, jaPt_ne, jaUI_o, jaUI_2, jaUL_at, jaUL_o, jaUL_1, jaB_z, jaB_1, ↓jaB_01, Classical.not_not, and_self, true_or, or_true, nI_11, Nat.reduceEqDiff, Nat.reduceAdd, Nat.reduceMul, Nat.add_zero, Nat.zero_add, Nat.mul_zero, not_true_eq_false, not_false_eq_true, false_implies, true_implies]
      have g76 : S2.1 76 0 = (σ 20).1 76 0 := by
        rw [f2.s 76 (by decide) (by decide)]
        simp (disch := first | omega | decide) only [jaU_eq, jaU_U, nI_add, pk_mul, jaIx_nI, vp_inT, true_and, and_true, ↓jaO0, ↓jaO1, nI_z, nI_z2, nI_z3, nI_z4, nI_z5, nI_lt', nI_le', nI_eq', jaUI_at, jaPt_eq, jaPt_ne, jaUI_o, jaUI_2, jaUL_at, jaUL_o, jaUL_1, jaB_z, jaB_1, ↓jaB_01, Classical.not_not, and_self, true_or, or_true, nI_11, Nat.reduceEqDiff, Nat.reduceAdd, Nat.reduceMul, Nat.add_zero, Nat.zero_add, Nat.mul_zero, not_true_eq_false, not_false_eq_true, false_implies, true_implies]
      refine sp_M_putsTrans (by omega) g72 g75 g76 hW h24 (by omega) hn (fun S3 s72 s75 s76 f3 => ?_)
      have hK := jvPuts_K (x := nI x) (n := n) hW h24
      exact jI_act2 (x' := jvPuts ((σ 20).1 72 0) ((σ 20).1 75 0) ((σ 20).1 76 0) (nI x) n) hI hm hq h9 h8 rT nT r1 (congrArg Prod.fst e1) (jvPuts_W hW h24 hn (by rw [jaIx_nI (by omega)]) (by rw [jaIx_nI (by omega)]; omega)).1 hK.1 (by rw [hK.2]; exact ht) s83 s33 f2 s72 s75 s76 f3 (by decide) (by decide)
  · have N := M0 (by
      by_cases c1 : ∃ q, q < jz ((σ 20).1 72 0) 0 ∧ x1 = nI q
      · exact Or.inr (fun c2 => c ⟨c1, c2⟩)
      · exact Or.inl c1)
    refine ⟨fun _ => N, fun y1 => ⟨fun _ => N, fun y2 => ⟨fun _ => N, fun y3 => ⟨fun y4 => ?_, fun _ => N⟩⟩⟩⟩
    refine absurd ⟨(jxInC (by omega)).mp ⟨y1, y2⟩, (jxInC (by omega)).mp ⟨y3, fun u => ?_⟩⟩ c
    rw [jxLe] at u
    exact u y4
end
