section
/-! what slice 0 alone changes; end, feed -/
theorem jI_A {σ τ : jaT} {B' : jaS} (h : jI σ) (τn : ∀ k, k ≠ 0 → k ≠ 2 → k ≠ 20 → τ k = σ k) (ht : jIt (τ 0) B') (hb : jIb (τ 0) B') (hf : jIf (τ 0) B') (a0 : ∀ j, j ∈ [8, 9, 11] → (τ 0).1 0 0 j = (σ 0).1 0 0 j) (a15 : (τ 0).1 15 0 = (σ 0).1 15 0)
    (bs : ∀ o, o ∈ [72, 75, 76, 83, 91, 92, 93, 95] → B'.1 o = (σ 20).1 o) (bl : ∀ o, o ∈ [78, 79, 94] → B'.2 o = (σ 20).2 o) (b33 : B'.1 70 0 33 = (σ 20).1 70 0 33) : jI (jaU τ 20 B') := by
  obtain ⟨h1, h2, h3, h4, h5, h6, h7, h8⟩ := h
  have n : ∀ k, k ≠ 20 → jaU τ 20 B' k = τ k := fun k hk => jaU_ne hk
  have e20 : jaU τ 20 B' 20 = B' := jaU_eq
  unfold jI
  rw [e20, n 0 (by decide), n 1 (by decide)]
  refine ⟨ht, ?_, ?_, ?_, ?_, hb, hf, ?_⟩
  · unfold jIs jIx
    rw [bs 72 (by decide), bs 75 (by decide), bs 76 (by decide), bl 78 (by decide), τn 1 (by decide) (by decide) (by decide)]
    exact h2
  · obtain ⟨m, q, a, b, c, d, e, i, k⟩ := h3
    refine ⟨m, q, a, b, (a0 9 (by decide)).trans c, (a0 8 (by decide)).trans d, b33.trans e, by rw [bs 72 (by decide), bs 83 (by decide)]; exact i, fun j hj => ?_⟩
    rw [n _ (by omega), n 1 (by decide), τn _ (by omega) (by omega) (by omega), τn 1 (by decide) (by decide) (by decide), bs 72 (by decide), bs 75 (by decide), bs 76 (by decide), bs 83 (by decide)]
    exact k j hj
  · obtain ⟨w, a, b, c⟩ := h4
    exact ⟨w, a, (a0 11 (by decide)).trans b, by rw [n _ (by omega), τn _ (by omega) (by omega) (by omega), bs 72 (by decide)]; exact c⟩
  · intro k hk
    rw [a15, bs 95 (by decide), n _ (by omega), n _ (by omega), τn (11 + k) (by omega) (by omega) (by omega), τn (16 + k) (by omega) (by omega) (by omega)]
    unfold jIi1
    rw [bs 91 (by decide), bs 92 (by decide), bs 93 (by decide), bl 94 (by decide)]
    exact h5 k hk
  · unfold jIm jmV
    rw [bl 79 (by decide), n 13 (by decide), τn 13 (by decide) (by decide) (by decide)]
    exact h8
/-- only the tape -/
def jPr (A A' : jaS) : Prop := (∀ o, o ≠ 0 → o ≠ 1 → A'.1 o = A.1 o) ∧ ∀ j, j ≠ 1 → A'.1 0 0 j = A.1 0 0 j
theorem jPr.rfl {A : jaS} : jPr A A := ⟨fun _ _ _ => Eq.refl _, fun _ _ => Eq.refl _⟩
theorem jPr.trans {A B C : jaS} (h : jPr A B) (h' : jPr B C) : jPr A C := ⟨fun o a b => (h'.1 o a b).trans (h.1 o a b), fun j a => (h'.2 j a).trans (h.2 j a)⟩
def jTp (A B : jaS) (n : Nat) : Prop := n ≤ 940 ∧ A.1 0 0 1 = nI n ∧ B.1 70 0 2 = nI n ∧ ∀ j, j < 940 → A.1 1 0 j = B.1 71 0 j &&& nI 255 ∧ ∃ c, c < 256 ∧ B.1 71 0 j &&& nI 255 = nI c
theorem jI_T {σ τ : jaT} {B' : jaS} {n : Nat} (h : jI σ) (τn : ∀ k, k ≠ 0 → τ k = σ k) (p : jPr (σ 0) (τ 0)) (t : jTp (τ 0) B' n) (f : jaFr [71] [0, 2] (σ 20) B') : jI (jaU τ 20 B') := by
  have h' := h
  obtain ⟨h1, h2, h3, h4, h5, h6, h7, h8⟩ := h'
  obtain ⟨t1, t2, t3, t4⟩ := t
  refine jI_A h (fun k k0 _ _ => τn k k0) ⟨⟨n, t1, t2, t3⟩, ?_, t4⟩ ?_ ?_ (fun j hj => p.2 j (fun e => by rw [e] at hj; revert hj; decide)) (by rw [p.1 15 (by decide) (by decide)]) (fun o ho => f.s o (fun e => by rw [List.mem_singleton.mp e] at ho; revert ho; decide) (fun e => by rw [e] at ho; revert ho; decide)) (fun o ho => f.l o (fun e => by rw [List.mem_singleton.mp e] at ho; revert ho; decide) (fun e => by rw [e] at ho; revert ho; decide)) (f.f 33 (by decide))
  · rw [p.2 3 (by decide), f.f 18 (by decide)]
    exact h1.2.1
  · unfold jIb
    rw [f.f 43 (by decide), f.s 88 (by decide) (by decide), p.2 17 (by decide), p.1 10 (by decide) (by decide)]
    exact h6
  · unfold jIf
    rw [f.f 37 (by decide), f.f 38 (by decide), f.f 39 (by decide), f.s 86 (by decide) (by decide), p.1 16 (by decide) (by decide), p.1 17 (by decide) (by decide)]
    exact h7
theorem jI.T {σ : jaT} (h : jI σ) : ∃ n, jTp (σ 0) (σ 20) n := by
  obtain ⟨⟨n, a, b, c⟩, -, d⟩ := h.1
  exact ⟨n, a, b, c, d⟩
theorem jf_end {x1 : Int32} : jFc jy_A_end jy_M_end [.inl x1] := by
  intro σ hI
  obtain ⟨n, t1, t2, t3, t4⟩ := hI.T
  have hI0 := jI_0 (v := nI 0) hI
  apply js_A_end
  rw [t2]
  have M0 : (x1 < 0 ∨ ¬ x1 ≤ nI n) → jaDe 12 jy_M_end [jaMo, .inl x1] σ (jaKi fun b σ2 => nI 0 = b ∧ jI σ2) := by
    intro c
    apply js_M_end
    refine ⟨fun _ => ⟨Or.inl rfl, rfl, hI0⟩, fun z => ⟨fun y => ?_, fun _ => ⟨Or.inl rfl, rfl, hI0⟩⟩⟩
    rw [jaU_eq, jaUI_at, jaPt_ne (by decide), t3] at y
    rcases c with c | c
    · exact absurd c z
    · exact absurd y c
  refine ⟨fun z => ⟨Or.inl rfl, M0 (Or.inl z)⟩, fun z => ⟨fun y => ⟨Or.inr rfl, ?_⟩, fun y => ⟨Or.inl rfl, M0 (Or.inr y)⟩⟩⟩
  obtain ⟨q, q1, rfl⟩ := jxOf z
  rw [nI_le' (by omega) (by omega)] at y
  refine jaAk (k := 20) (B := σ 20) (P := fun τ => jaDe 12 jy_M_end [jaMo, .inl (nI q)] τ (jaKi fun b σ2 => nI 1 = b ∧ jI σ2)) (jaU_ne (by decide)) ?_
  apply js_M_end
  simp (disch := first | omega | decide) only [jaU_eq, jaU_U, nI_add, pk_mul, jaIx_nI, vp_inT, true_and, and_true, ↓jaO0, ↓jaO1, nI_z, nI_z2, nI_z3, nI_z4, nI_z5, nI_lt', nI_le', nI_eq', jaUI_at, jaPt_eq, jaPt_ne, jaUI_o, jaUI_2, jaUL_at, jaUL_o, jaUL_1, jaB_z, jaB_1, ↓jaB_01, Classical.not_not, and_self, true_or, or_true, nI_11, Nat.reduceEqDiff, Nat.reduceAdd, Nat.reduceMul, Nat.add_zero, Nat.zero_add, Nat.mul_zero, not_true_eq_false, not_false_eq_true, false_implies, true_implies, t3]
  refine ⟨fun _ => ?_, fun z => absurd y z⟩
  refine jI_T (n := q) hI (fun k hk => jaU_ne hk) ?_ ⟨by omega, ?_, ?_, fun j hj => ?_⟩ ((jaFr.rfl.uf (by decide)).uf (by decide))
  · rw [jaU_eq]
    refine ⟨fun o h0 _ => ?_, fun j hj => ?_⟩
    · funext a
      simp (disch := first | omega | decide) only [jaU_eq, jaU_U, nI_add, pk_mul, jaIx_nI, vp_inT, true_and, and_true, ↓jaO0, ↓jaO1, nI_z, nI_z2, nI_z3, nI_z4, nI_z5, nI_lt', nI_le', nI_eq', jaUI_at, jaPt_eq, jaPt_ne, jaUI_o, jaUI_2, jaUL_at, jaUL_o, jaUL_1, jaB_z, jaB_1, ↓jaB_01, Classical.not_not, and_self, true_or, or_true, nI_11, Nat.reduceEqDiff, Nat.reduceAdd, Nat.reduceMul, Nat.add_zero, Nat.zero_add, Nat.mul_zero, not_true_eq_false, not_false_eq_true, false_implies, true_implies, h0]
    · rw [jaUI_at, jaPt_ne hj]
  · simp (disch := first | omega | decide) only [jaU_eq, jaU_U, nI_add, pk_mul, jaIx_nI, vp_inT, true_and, and_true, ↓jaO0, ↓jaO1, nI_z, nI_z2, nI_z3, nI_z4, nI_z5, nI_lt', nI_le', nI_eq', jaUI_at, jaPt_eq, jaPt_ne, jaUI_o, jaUI_2, jaUL_at, jaUL_o, jaUL_1, jaB_z, jaB_1, ↓jaB_01, Classical.not_not, and_self, true_or, or_true, nI_11, Nat.reduceEqDiff, Nat.reduceAdd, Nat.reduceMul, Nat.add_zero, Nat.zero_add, Nat.mul_zero, not_true_eq_false, not_false_eq_true, false_implies, true_implies]
  · simp (disch := first | omega | decide) only [jaU_eq, jaU_U, nI_add, pk_mul, jaIx_nI, vp_inT, true_and, and_true, ↓jaO0, ↓jaO1, nI_z, nI_z2, nI_z3, nI_z4, nI_z5, nI_lt', nI_le', nI_eq', jaUI_at, jaPt_eq, jaPt_ne, jaUI_o, jaUI_2, jaUL_at, jaUL_o, jaUL_1, jaB_z, jaB_1, ↓jaB_01, Classical.not_not, and_self, true_or, or_true, nI_11, Nat.reduceEqDiff, Nat.reduceAdd, Nat.reduceMul, Nat.add_zero, Nat.zero_add, Nat.mul_zero, not_true_eq_false, not_false_eq_true, false_implies, true_implies]
  · simp (disch := first | omega | decide) only [jaU_eq, jaU_U, nI_add, pk_mul, jaIx_nI, vp_inT, true_and, and_true, ↓jaO0, ↓jaO1, nI_z, nI_z2, nI_z3, nI_z4, nI_z5, nI_lt', nI_le', nI_eq', jaUI_at, jaPt_eq, jaPt_ne, jaUI_o, jaUI_2, jaUL_at, jaUL_o, jaUL_1, jaB_z, jaB_1, ↓jaB_01, Classical.not_not, and_self, true_or, or_true, nI_11, Nat.reduceEqDiff, Nat.reduceAdd, Nat.reduceMul, Nat.add_zero, Nat.zero_add, Nat.mul_zero, not_true_eq_false, not_false_eq_true, false_implies, true_implies]
    exact t4 j hj
end
