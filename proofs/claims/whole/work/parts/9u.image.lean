section
/-! images -/
theorem sp_Sn_copyFrom {D : Nat} (hD : 1 ≤ D) {kk : jaT → Prop} {σ : jaT} {s : jvA} {k k1 : Nat} (hk : k1 ≠ k) (hS : jSn (σ k1) s) (h : ∀ T', jSn T' s → kk (jaU σ k T')) : jaDe D jy_Sn_copyFrom [.inr (.inr (20, k, 0)), .inr (.inr (20, k1, 0))] σ (jaKv kk) := by
  have hn : ∃ n, n ≤ 39 ∧ (σ k1).1 20 0 2 = nI n ∧ ((σ k1).1 20 0 0 = nI 0 ∨ (σ k1).1 20 0 0 = nI 1) ∧ ∀ T' : jaS, T'.1 20 0 0 = (σ k1).1 20 0 0 → T'.1 20 0 2 = (σ k1).1 20 0 2 → (∀ j, j < n → T'.1 21 0 j = (σ k1).1 21 0 j ∧ T'.1 22 0 j = (σ k1).1 22 0 j ∧ T'.1 23 0 j = (σ k1).1 23 0 j) → jSn T' s := by
    rcases hS with ⟨⟨a, b⟩, c⟩ | ⟨l, l1, l39, e525, t1, tT, tr, tok, tP⟩
    · exact ⟨0, by decide, b, Or.inl a, fun T' h0 h2 _ => Or.inl ⟨⟨h0.trans a, h2.trans b⟩, c⟩⟩
    · refine ⟨l.length, l39, tT.1, Or.inr t1, fun T' h0 h2 h3 => Or.inr ⟨l, l1, l39, e525, h0.trans t1, ⟨h2.trans tT.1, fun j c hj => ?_⟩, tr, tok, tP⟩⟩
      have hl : j < l.length := by
        rcases Nat.lt_or_ge j l.length with z | z
        · exact z
        · rw [List.getElem?_eq_none z] at hj
          cases hj
      obtain ⟨a, b, c⟩ := h3 j hl
      obtain ⟨a', b', c'⟩ := tT.2 j _ hj
      exact ⟨a.trans a', b.trans b', c.trans c'⟩
  obtain ⟨n, n39, n2, n01, hf⟩ := hn
  have ne : ∀ T', jaU σ k T' k1 = σ k1 := fun T' => jaU_ne hk
  obtain ⟨D, rfl, hD⟩ := jaSuc hD
  apply js_Sn_copyFrom
  refine ⟨n01, ?_⟩
  simp only [jaU_eq, jaU_U, ne]
  refine jaFor (C := fun i => ∀ T', T'.1 20 0 0 = (σ k1).1 20 0 0 → T'.1 20 0 2 = (σ k1).1 20 0 2 → (∀ j, j < i → T'.1 21 0 j = (σ k1).1 21 0 j ∧ T'.1 22 0 j = (σ k1).1 22 0 j ∧ T'.1 23 0 j = (σ k1).1 23 0 j) → jc_Sn_copyFrom_1 D kk k k1 (nI i) (jaU σ k T')) (N := n) ?_ (fun i hi ih => ?_) _ (by simp (disch := first | omega | decide) only [jaU_eq, jaU_U, nI_add, pk_mul, jaIx_nI, vp_inT, true_and, and_true, ↓jaO0, ↓jaO1, nI_z, nI_z2, nI_z3, nI_z4, nI_z5, nI_lt', nI_le', nI_eq', jaUI_at, jaPt_eq, jaPt_ne, jaUI_o, jaUI_2, jaUL_at, jaUL_o, jaUL_1, jaB_z, jaB_1, ↓jaB_01, Classical.not_not, and_self, true_or, or_true, nI_11, Nat.reduceEqDiff, Nat.reduceAdd, Nat.reduceMul, Nat.add_zero, Nat.zero_add, Nat.mul_zero, not_true_eq_false, not_false_eq_true, false_implies, true_implies]) (by simp (disch := first | omega | decide) only [jaU_eq, jaU_U, nI_add, pk_mul, jaIx_nI, vp_inT, true_and, and_true, ↓jaO0, ↓jaO1, nI_z, nI_z2, nI_z3, nI_z4, nI_z5, nI_lt', nI_le', nI_eq', jaUI_at, jaPt_eq, jaPt_ne, jaUI_o, jaUI_2, jaUL_at, jaUL_o, jaUL_1, jaB_z, jaB_1, ↓jaB_01, Classical.not_not, and_self, true_or, or_true, nI_11, Nat.reduceEqDiff, Nat.reduceAdd, Nat.reduceMul, Nat.add_zero, Nat.zero_add, Nat.mul_zero, not_true_eq_false, not_false_eq_true, false_implies, true_implies]) (fun j hj => absurd hj (by omega))
  · intro T' a b c
    apply jb_Sn_copyFrom_1
    rw [jaU_eq, b, n2]
    exact ⟨fun _ => h T' (hf T' a b c), fun z => absurd (by rw [nI_le' (by omega) (by omega)]; omega) z⟩
  · intro T' a b c
    apply jb_Sn_copyFrom_1
    have b' := b.trans n2
    simp (disch := first | omega | decide) only [jaU_eq, jaU_U, nI_add, pk_mul, jaIx_nI, vp_inT, true_and, and_true, ↓jaO0, ↓jaO1, nI_z, nI_z2, nI_z3, nI_z4, nI_z5, nI_lt', nI_le', nI_eq', jaUI_at, jaPt_eq, jaPt_ne, jaUI_o, jaUI_2, jaUL_at, jaUL_o, jaUL_1, jaB_z, jaB_1, ↓jaB_01, Classical.not_not, and_self, true_or, or_true, nI_11, Nat.reduceEqDiff, Nat.reduceAdd, Nat.reduceMul, Nat.add_zero, Nat.zero_add, Nat.mul_zero, not_true_eq_false, not_false_eq_true, false_implies, true_implies, b', ne]
    refine ⟨fun q => absurd q (by omega), fun _ => ?_⟩
    refine ih _ ?_ ?_ (fun j hj => ?_)
    · simp (disch := first | omega | decide) only [jaU_eq, jaU_U, nI_add, pk_mul, jaIx_nI, vp_inT, true_and, and_true, ↓jaO0, ↓jaO1, nI_z, nI_z2, nI_z3, nI_z4, nI_z5, nI_lt', nI_le', nI_eq', jaUI_at, jaPt_eq, jaPt_ne, jaUI_o, jaUI_2, jaUL_at, jaUL_o, jaUL_1, jaB_z, jaB_1, ↓jaB_01, Classical.not_not, and_self, true_or, or_true, nI_11, Nat.reduceEqDiff, Nat.reduceAdd, Nat.reduceMul, Nat.add_zero, Nat.zero_add, Nat.mul_zero, not_true_eq_false, not_false_eq_true, false_implies, true_implies]
      exact a
    · simp (disch := first | omega | decide) only [jaU_eq, jaU_U, nI_add, pk_mul, jaIx_nI, vp_inT, true_and, and_true, ↓jaO0, ↓jaO1, nI_z, nI_z2, nI_z3, nI_z4, nI_z5, nI_lt', nI_le', nI_eq', jaUI_at, jaPt_eq, jaPt_ne, jaUI_o, jaUI_2, jaUL_at, jaUL_o, jaUL_1, jaB_z, jaB_1, ↓jaB_01, Classical.not_not, and_self, true_or, or_true, nI_11, Nat.reduceEqDiff, Nat.reduceAdd, Nat.reduceMul, Nat.add_zero, Nat.zero_add, Nat.mul_zero, not_true_eq_false, not_false_eq_true, false_implies, true_implies]
      exact b
    · by_cases e : j = i
      · subst e
        simp (disch := first | omega | decide) only [jaU_eq, jaU_U, nI_add, pk_mul, jaIx_nI, vp_inT, true_and, and_true, ↓jaO0, ↓jaO1, nI_z, nI_z2, nI_z3, nI_z4, nI_z5, nI_lt', nI_le', nI_eq', jaUI_at, jaPt_eq, jaPt_ne, jaUI_o, jaUI_2, jaUL_at, jaUL_o, jaUL_1, jaB_z, jaB_1, ↓jaB_01, Classical.not_not, and_self, true_or, or_true, nI_11, Nat.reduceEqDiff, Nat.reduceAdd, Nat.reduceMul, Nat.add_zero, Nat.zero_add, Nat.mul_zero, not_true_eq_false, not_false_eq_true, false_implies, true_implies]
      · simp (disch := first | omega | decide) only [jaU_eq, jaU_U, nI_add, pk_mul, jaIx_nI, vp_inT, true_and, and_true, ↓jaO0, ↓jaO1, nI_z, nI_z2, nI_z3, nI_z4, nI_z5, nI_lt', nI_le', nI_eq', jaUI_at, jaPt_eq, jaPt_ne, jaUI_o, jaUI_2, jaUL_at, jaUL_o, jaUL_1, jaB_z, jaB_1, ↓jaB_01, Classical.not_not, and_self, true_or, or_true, nI_11, Nat.reduceEqDiff, Nat.reduceAdd, Nat.reduceMul, Nat.add_zero, Nat.zero_add, Nat.mul_zero, not_true_eq_false, not_false_eq_true, false_implies, true_implies, e]
        exact c j (by omega)
theorem jgRow_c {R R' : jvA} {l : List jbY} (h : ∀ j, j < 3 * l.length → R' j = R j) (hr : jgRow R l) : jgRow R' l := by
  intro j c hj
  have hl : j < l.length := by
    rcases Nat.lt_or_ge j l.length with z | z
    · exact z
    · rw [List.getElem?_eq_none z] at hj
      cases hj
  rw [h _ (by omega), h _ (by omega), h _ (by omega)]
  exact hr j c hj
theorem jSn_706 {T : jaS} {s s' : jvA} (h : ∀ j, j < 706 → s' j = s j) (hs : jSn T s) : jSn T s' := by
  rcases hs with ⟨a, c⟩ | ⟨l, l1, l39, e525, t1, tT, tr, tok, tP⟩
  · exact Or.inl ⟨a, (h 525 (by decide)).trans c⟩
  · exact Or.inr ⟨l, l1, l39, (h 525 (by decide)).trans e525, t1, tT, jgRow_c (fun j hj => h _ (by omega)) tr, tok, tP⟩
end
