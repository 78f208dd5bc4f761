section
/-! keeping what is -/
theorem sp_St_copyFrom0 {D : Nat} (hD : 3 ≤ D) {kk : jaT → Prop} {σ : jaT} {s d e : jvA} {k k1 : Nat} (hk : k1 ≠ k) (hR : jR (σ k1) (s, d, e)) (hW : jW s d e) (h : ∀ S', jR S' (s, d, e) → S'.1 40 0 8 = (σ k).1 40 0 8 → jcQl (S'.2 35 0) ((σ k1).2 35 0) 16 → kk (jaU σ k S')) : jaDe D jy_St_copyFrom [jcSt k, jcSt k1] σ (jaKv kk) := by
  have := sp_St_copyFrom (σ := σ) (S := σ k) (kk := kk) hD hk rfl hR hW h
  rwa [jaU_self] at this
noncomputable def jKt0 (σ : jaT) (q m : Nat) (T : jaS) : jaT := jaU (jaU σ (3 + q) T) 0 (jaUI (jaUI (σ 0) 0 0 8 (nI ((q + 1) % 8))) 0 0 9 (nI (jvStM m)))
theorem sp_A_keepState {D : Nat} (hD : 4 ≤ D) {kk : jaT → Prop} {σ : jaT} {s d e : jvA} {m q : Nat} (hR : jR (σ 1) (s, d, e)) (hW : jW s d e) (hm : m ≤ 8) (hq : q < 8) (h9 : (σ 0).1 0 0 9 = nI m) (h8 : (σ 0).1 0 0 8 = nI q)
    (h : ∀ T, jR T (s, d, e) → (∀ i, i < 16 → T.2 35 0 i = (σ 1).2 35 0 i) → kk (jKt0 σ q m T)) : jaDe D jy_A_keepState [jcA] σ (jaKv kk) := by
  obtain ⟨hM1, hM2, hM3, hM4⟩ := jvStM_le hm
  obtain ⟨D, rfl, hD⟩ := jaSuc hD
  apply js_A_keepState
  simp (disch := first | omega | decide) only [jaU_eq, jaU_U, nI_add, pk_mul, jaIx_nI, vp_inT, true_and, and_true, ↓jaO0, ↓jaO1, nI_z, nI_z2, nI_z3, nI_z4, nI_z5, nI_lt', nI_le', nI_eq', jaUI_at, jaPt_eq, jaPt_ne, jaUI_o, jaUI_2, jaUL_at, jaUL_o, jaUL_1, jaB_z, jaB_1, ↓jaB_01, Classical.not_not, and_self, true_or, or_true, nI_11, Nat.reduceEqDiff, Nat.reduceAdd, Nat.reduceMul, Nat.add_zero, Nat.zero_add, Nat.mul_zero, not_true_eq_false, not_false_eq_true, false_implies, true_implies, h8]
  refine sp_St_copyFrom0 (by omega) (by omega) hR hW (fun T rT _ nT => ?_)
  have e0 : jaU σ (3 + q) T 0 = σ 0 := jaU_ne (by omega)
  have hk := h T rT nT
  unfold jKt0 at hk
  rw [hM4] at hk
  refine ⟨fun z => ?_, fun z => ?_⟩
  · rw [e0, h8, nI_add, nI_le' (by omega) (by omega)] at z
    have q7 : q = 7 := by omega
    subst q7
    simp (disch := first | omega | decide) only [jaU_eq, jaU_U, nI_add, pk_mul, jaIx_nI, vp_inT, true_and, and_true, ↓jaO0, ↓jaO1, nI_z, nI_z2, nI_z3, nI_z4, nI_z5, nI_lt', nI_le', nI_eq', jaUI_at, jaPt_eq, jaPt_ne, jaUI_o, jaUI_2, jaUL_at, jaUL_o, jaUL_1, jaB_z, jaB_1, ↓jaB_01, Classical.not_not, and_self, true_or, or_true, nI_11, Nat.reduceEqDiff, Nat.reduceAdd, Nat.reduceMul, Nat.add_zero, Nat.zero_add, Nat.mul_zero, not_true_eq_false, not_false_eq_true, false_implies, true_implies, e0, h9]
    refine sp_JM_min (by omega) (by omega) (by omega) ?_
    simp (disch := first | omega | decide) only [jaU_eq, jaU_U, nI_add, pk_mul, jaIx_nI, vp_inT, true_and, and_true, ↓jaO0, ↓jaO1, nI_z, nI_z2, nI_z3, nI_z4, nI_z5, nI_lt', nI_le', nI_eq', jaUI_at, jaPt_eq, jaPt_ne, jaUI_o, jaUI_2, jaUL_at, jaUL_o, jaUL_1, jaB_z, jaB_1, ↓jaB_01, Classical.not_not, and_self, true_or, or_true, nI_11, Nat.reduceEqDiff, Nat.reduceAdd, Nat.reduceMul, Nat.add_zero, Nat.zero_add, Nat.mul_zero, not_true_eq_false, not_false_eq_true, false_implies, true_implies]
    exact hk
  · rw [e0, h8, nI_add, nI_le' (by omega) (by omega)] at z
    rw [show (q + 1) % 8 = q + 1 by omega] at hk
    simp (disch := first | omega | decide) only [jaU_eq, jaU_U, nI_add, pk_mul, jaIx_nI, vp_inT, true_and, and_true, ↓jaO0, ↓jaO1, nI_z, nI_z2, nI_z3, nI_z4, nI_z5, nI_lt', nI_le', nI_eq', jaUI_at, jaPt_eq, jaPt_ne, jaUI_o, jaUI_2, jaUL_at, jaUL_o, jaUL_1, jaB_z, jaB_1, ↓jaB_01, Classical.not_not, and_self, true_or, or_true, nI_11, Nat.reduceEqDiff, Nat.reduceAdd, Nat.reduceMul, Nat.add_zero, Nat.zero_add, Nat.mul_zero, not_true_eq_false, not_false_eq_true, false_implies, true_implies, e0, h8, h9]
    refine sp_JM_min (by omega) (by omega) (by omega) ?_
    simp (disch := first | omega | decide) only [jaU_eq, jaU_U, nI_add, pk_mul, jaIx_nI, vp_inT, true_and, and_true, ↓jaO0, ↓jaO1, nI_z, nI_z2, nI_z3, nI_z4, nI_z5, nI_lt', nI_le', nI_eq', jaUI_at, jaPt_eq, jaPt_ne, jaUI_o, jaUI_2, jaUL_at, jaUL_o, jaUL_1, jaB_z, jaB_1, ↓jaB_01, Classical.not_not, and_self, true_or, or_true, nI_11, Nat.reduceEqDiff, Nat.reduceAdd, Nat.reduceMul, Nat.add_zero, Nat.zero_add, Nat.mul_zero, not_true_eq_false, not_false_eq_true, false_implies, true_implies]
    exact hk
theorem jKt0_n {σ : jaT} {q m : Nat} {T : jaS} : (∀ k, k ≠ 0 → k ≠ 3 + q → jKt0 σ q m T k = σ k) ∧ jKt0 σ q m T (3 + q) = T ∧ jKt0 σ q m T 0 = jaUI (jaUI (σ 0) 0 0 8 (nI ((q + 1) % 8))) 0 0 9 (nI (jvStM m)) := by
  unfold jKt0
  refine ⟨fun k h1 h2 => ?_, ?_, ?_⟩
  · rw [jaU_ne h1, jaU_ne h2]
  · rw [jaU_ne (by omega), jaU_eq]
  · rw [jaU_eq]
theorem jI_act1 {σ : jaT} {S1 T B' : jaS} {m q : Nat} {x' : jvX} {A F : List Nat} (h : jI σ) (hm : m ≤ 8) (hq : q < 8) (h9 : (σ 0).1 0 0 9 = nI m) (h8 : (σ 0).1 0 0 8 = nI q)
    (rT : jR T (jIx (σ 20))) (nT : ∀ i, i < 16 → T.2 35 0 i = (σ 1).2 35 0 i) (r1 : jR S1 x') (n1 : S1.2 = (σ 1).2)
    (w' : jW3 x') (K : jK3 (jIx (σ 20)) x') (t' : jz x'.1 31 ≤ 1000) (b72 : B'.1 72 0 = x'.1) (b75 : B'.1 75 0 = x'.2.1) (b76 : B'.1 76 0 = x'.2.2) (b83 : B'.1 83 0 = jvSt ((σ 20).1 72 0) ((σ 20).1 83 0) m) (b33 : B'.1 70 0 33 = nI (jvStM m))
    (f : jaFr A F (σ 20) B') (hA : ∀ o, o ∈ [71, 78, 79, 86, 88, 91, 92, 93, 94, 95] → o ∉ A) (hF : ∀ j, j ∈ [2, 18, 37, 38, 39, 43] → j ∉ F) : jI (jaU (jaU (jKt0 σ q m T) 1 S1) 20 B') := by
  obtain ⟨p1, p2, p3⟩ := @jKt0_n σ q m T
  have s : ∀ o, o ∈ [71, 78, 79, 86, 88, 91, 92, 93, 94, 95] → B'.1 o = (σ 20).1 o := fun o ho => f.s o (hA o ho) (fun e => by rw [e] at ho; revert ho; decide)
  have l : ∀ o, o ∈ [71, 78, 79, 86, 88, 91, 92, 93, 94, 95] → B'.2 o = (σ 20).2 o := fun o ho => f.l o (hA o ho) (fun e => by rw [e] at ho; revert ho; decide)
  have g : ∀ j, j ∈ [2, 18, 37, 38, 39, 43] → B'.1 70 0 j = (σ 20).1 70 0 j := fun j hj => f.f j (hF j hj)
  have e0 : jaU (jKt0 σ q m T) 1 S1 0 = jaUI (jaUI (σ 0) 0 0 8 (nI ((q + 1) % 8))) 0 0 9 (nI (jvStM m)) := by rw [jaU_ne (by decide), p3]
  have o0 : ∀ o, o ≠ 0 → (jaU (jKt0 σ q m T) 1 S1 0).1 o = (σ 0).1 o := fun o ho => by
    rw [e0]
    funext a
    simp (disch := first | omega | decide) only [jaU_eq, jaU_U, nI_add, pk_mul, jaIx_nI, vp_inT, true_and, and_true, ↓jaO0, ↓jaO1, nI_z, nI_z2, nI_z3, nI_z4, nI_z5, nI_lt', nI_le', nI_eq', jaUI_at, jaPt_eq, jaPt_ne, jaUI_o, jaUI_2, jaUL_at, jaUL_o, jaUL_1, jaB_z, jaB_1, ↓jaB_01, Classical.not_not, and_self, true_or, or_true, nI_11, Nat.reduceEqDiff, Nat.reduceAdd, Nat.reduceMul, Nat.add_zero, Nat.zero_add, Nat.mul_zero, not_true_eq_false, not_false_eq_true, false_implies, true_implies, ho]
  have c0 : ∀ j, j ≠ 8 → j ≠ 9 → (jaU (jKt0 σ q m T) 1 S1 0).1 0 0 j = (σ 0).1 0 0 j := fun j h1 h2 => by
    rw [e0, jaUI_at, jaPt_ne h2, jaUI_at, jaPt_ne h1]
  have e3 : jaU (jKt0 σ q m T) 1 S1 (3 + q) = T := by rw [jaU_ne (by omega), p2]
  have h' := h
  obtain ⟨h1, h2, h3, h4, h5, h6, h7, h8'⟩ := h'
  refine jI_act (m := m) (q := q) (x' := x') h hm hq h9 h8 (fun k k0 k1 k2 k3 k20 => by rw [jaU_ne k1, p1 k k0 k3]) ?_ ?_ ?_ (c0 11 (by decide) (by decide)) (by rw [o0 15 (by decide)]) (by rw [e0, jaUI_at, jaPt_eq]) (by rw [e0, jaUI_at, jaPt_ne (by decide), jaUI_at, jaPt_eq]) (by rw [e3]; exact rT) (by rw [e3]; exact nT) (by rw [jaU_eq]; exact r1) (fun i _ => by rw [jaU_eq, n1]) w' K t' b72 b75 b76 b83 b33 (fun o ho => s o (by revert o; decide)) (fun o ho => l o (by revert o; decide))
  · unfold jIt
    rw [g 2 (by decide), g 18 (by decide), s 71 (by decide), c0 1 (by decide) (by decide), c0 3 (by decide) (by decide), o0 1 (by decide)]
    exact h1
  · unfold jIb
    rw [g 43 (by decide), s 88 (by decide), c0 17 (by decide) (by decide), o0 10 (by decide)]
    exact h6
  · unfold jIf
    rw [g 37 (by decide), g 38 (by decide), g 39 (by decide), s 86 (by decide), o0 16 (by decide), o0 17 (by decide)]
    exact h7
end
