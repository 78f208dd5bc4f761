section
/-! a text; sentence -/
theorem jTp_X {A B : jaS} {n : Nat} (h : jTp A B n) (lim : Nat) : ∃ X : jtX, X.2.1 = n ∧ X.2.2 = lim ∧ (∀ q, X.1 q < 256) ∧ jtT A X ∧ ∀ j, j < 940 → B.1 71 0 j &&& nI 255 = nI (X.1 j) := by
  obtain ⟨t1, t2, t3, t4⟩ := h
  have c : ∀ j, ∃ v, v < 256 ∧ (j < 940 → A.1 1 0 j = nI v ∧ B.1 71 0 j &&& nI 255 = nI v) := fun j => by
    by_cases hj : j < 940
    · obtain ⟨a, v, b, c⟩ := t4 j hj
      exact ⟨v, b, fun _ => ⟨a.trans c, c⟩⟩
    · exact ⟨0, by decide, fun z => absurd z hj⟩
  obtain ⟨f, hf⟩ := Classical.axiomOfChoice c
  exact ⟨(f, n, lim), rfl, rfl, fun q => (hf q).1, fun j hj => ⟨((hf j).2 hj).1, (hf j).1⟩, fun j hj => ((hf j).2 hj).2⟩
def jPf (A A' : jaS) : Prop := (∀ o, o = 1 ∨ 5 ≤ o → A'.1 o = A.1 o) ∧ ∀ j, j ≠ 1 → j ≠ 3 → A'.1 0 0 j = A.1 0 0 j
theorem jtR_0 {S S' : jaS} {X : jtX} {i : Nat} (h : ∀ o, o ≠ 0 → S'.1 o = S.1 o) (hl : S'.2 = S.2) (hR : jtR S X i) : jtR S' X i := by
  unfold jtR jtC at *
  rw [h 2 (by decide), h 3 (by decide), h 4 (by decide), hl]
  exact hR
theorem sp_A_readTape {D : Nat} (hD : 9 ≤ D) {kk : jaT → Prop} {σ : jaT} {A : jaS} {X : jtX} (hX : ∀ q, X.1 q < 256) (hT : jtT A X) (hn : A.1 0 0 1 = nI X.2.1) (hl : X.2.1 ≤ 940) (hm : X.2.2 ≤ 940)
    (h : ∀ A', jPf A A' → A'.1 0 0 1 = nI 0 → A'.1 0 0 3 = nI 0 → jtR A' X 0 → kk (jaU σ 0 A')) : jaDe D jy_A_readTape [jcA, .inl (nI X.2.2)] (jaU σ 0 A) (jaKv kk) := by
  obtain ⟨D, rfl, hD⟩ := jaSuc hD
  apply js_A_readTape
  simp (disch := first | omega | decide) only [jaU_eq, jaU_U, nI_add, pk_mul, jaIx_nI, vp_inT, true_and, and_true, ↓jaO0, ↓jaO1, nI_z, nI_z2, nI_z3, nI_z4, nI_z5, nI_lt', nI_le', nI_eq', jaUI_at, jaPt_eq, jaPt_ne, jaUI_o, jaUI_2, jaUL_at, jaUL_o, jaUL_1, jaB_z, jaB_1, ↓jaB_01, Classical.not_not, and_self, true_or, or_true, nI_11, Nat.reduceEqDiff, Nat.reduceAdd, Nat.reduceMul, Nat.add_zero, Nat.zero_add, Nat.mul_zero, not_true_eq_false, not_false_eq_true, false_implies, true_implies, hn]
  refine sp_Rd_begin (by omega) hX hT hl hm (fun S' f r _ _ => ?_)
  simp (disch := first | omega | decide) only [jaU_eq, jaU_U, nI_add, pk_mul, jaIx_nI, vp_inT, true_and, and_true, ↓jaO0, ↓jaO1, nI_z, nI_z2, nI_z3, nI_z4, nI_z5, nI_lt', nI_le', nI_eq', jaUI_at, jaPt_eq, jaPt_ne, jaUI_o, jaUI_2, jaUL_at, jaUL_o, jaUL_1, jaB_z, jaB_1, ↓jaB_01, Classical.not_not, and_self, true_or, or_true, nI_11, Nat.reduceEqDiff, Nat.reduceAdd, Nat.reduceMul, Nat.add_zero, Nat.zero_add, Nat.mul_zero, not_true_eq_false, not_false_eq_true, false_implies, true_implies]
  refine h _ ⟨fun o ho => ?_, fun j h1 h3 => ?_⟩ ?_ ?_ (jtR_0 (fun o ho => ?_) rfl r)
  · have hne : o ≠ 0 := by omega
    rw [← f o (by omega)]
    funext a
    simp (disch := first | omega | decide) only [jaU_eq, jaU_U, nI_add, pk_mul, jaIx_nI, vp_inT, true_and, and_true, ↓jaO0, ↓jaO1, nI_z, nI_z2, nI_z3, nI_z4, nI_z5, nI_lt', nI_le', nI_eq', jaUI_at, jaPt_eq, jaPt_ne, jaUI_o, jaUI_2, jaUL_at, jaUL_o, jaUL_1, jaB_z, jaB_1, ↓jaB_01, Classical.not_not, and_self, true_or, or_true, nI_11, Nat.reduceEqDiff, Nat.reduceAdd, Nat.reduceMul, Nat.add_zero, Nat.zero_add, Nat.mul_zero, not_true_eq_false, not_false_eq_true, false_implies, true_implies, hne]
  · rw [jaUI_at, jaPt_ne h3, jaUI_at, jaPt_ne h1, f 0 (by omega)]
  · simp (disch := first | omega | decide) only [jaU_eq, jaU_U, nI_add, pk_mul, jaIx_nI, vp_inT, true_and, and_true, ↓jaO0, ↓jaO1, nI_z, nI_z2, nI_z3, nI_z4, nI_z5, nI_lt', nI_le', nI_eq', jaUI_at, jaPt_eq, jaPt_ne, jaUI_o, jaUI_2, jaUL_at, jaUL_o, jaUL_1, jaB_z, jaB_1, ↓jaB_01, Classical.not_not, and_self, true_or, or_true, nI_11, Nat.reduceEqDiff, Nat.reduceAdd, Nat.reduceMul, Nat.add_zero, Nat.zero_add, Nat.mul_zero, not_true_eq_false, not_false_eq_true, false_implies, true_implies]
  · simp (disch := first | omega | decide) only [jaU_eq, jaU_U, nI_add, pk_mul, jaIx_nI, vp_inT, true_and, and_true, ↓jaO0, ↓jaO1, nI_z, nI_z2, nI_z3, nI_z4, nI_z5, nI_lt', nI_le', nI_eq', jaUI_at, jaPt_eq, jaPt_ne, jaUI_o, jaUI_2, jaUL_at, jaUL_o, jaUL_1, jaB_z, jaB_1, ↓jaB_01, Classical.not_not, and_self, true_or, or_true, nI_11, Nat.reduceEqDiff, Nat.reduceAdd, Nat.reduceMul, Nat.add_zero, Nat.zero_add, Nat.mul_zero, not_true_eq_false, not_false_eq_true, false_implies, true_implies]
  · funext a
    simp (disch := first | omega | decide) only [jaU_eq, jaU_U, nI_add, pk_mul, jaIx_nI, vp_inT, true_and, and_true, ↓jaO0, ↓jaO1, nI_z, nI_z2, nI_z3, nI_z4, nI_z5, nI_lt', nI_le', nI_eq', jaUI_at, jaPt_eq, jaPt_ne, jaUI_o, jaUI_2, jaUL_at, jaUL_o, jaUL_1, jaB_z, jaB_1, ↓jaB_01, Classical.not_not, and_self, true_or, or_true, nI_11, Nat.reduceEqDiff, Nat.reduceAdd, Nat.reduceMul, Nat.add_zero, Nat.zero_add, Nat.mul_zero, not_true_eq_false, not_false_eq_true, false_implies, true_implies, ho]
theorem sp_A_faultBelow {D : Nat} (hD : 1 ≤ D) {kk : Int32 → jaT → Prop} {τ : jaT} {X : jtX} {c p : Nat} {x : Int32} (hf : jtFl (τ 0) X c p) (h : kk (x - nI (jtAt X p)) (jaU τ 0 (jaUI (τ 0) 0 0 3 (nI c)))) : jaDe D jy_A_faultBelow [jcA, .inl x] τ (jaKi kk) := by
  obtain ⟨f1, f2⟩ := hf
  obtain ⟨D, rfl, hD⟩ := jaSuc hD
  apply js_A_faultBelow
  simp (disch := first | omega | decide) only [jaU_eq, jaU_U, nI_add, pk_mul, jaIx_nI, vp_inT, true_and, and_true, ↓jaO0, ↓jaO1, nI_z, nI_z2, nI_z3, nI_z4, nI_z5, nI_lt', nI_le', nI_eq', jaUI_at, jaPt_eq, jaPt_ne, jaUI_o, jaUI_2, jaUL_at, jaUL_o, jaUL_1, jaB_z, jaB_1, ↓jaB_01, Classical.not_not, and_self, true_or, or_true, nI_11, Nat.reduceEqDiff, Nat.reduceAdd, Nat.reduceMul, Nat.add_zero, Nat.zero_add, Nat.mul_zero, not_true_eq_false, not_false_eq_true, false_implies, true_implies, f1, f2]
  exact h
theorem jI_Z {σ τ : jaT} {B' : jaS} {w' : Nat} (h : jI σ) (hw : w' ≤ 1) (τn : ∀ q, q ≠ 0 → q ≠ 14 → q ≠ 15 → q ≠ 20 → τ q = σ q) (ht : jIt (τ 0) B') (hb : jIb (τ 0) B') (hf : jIf (τ 0) B') (a0 : ∀ j, j ∈ [8, 9] → (τ 0).1 0 0 j = (σ 0).1 0 0 j) (a11 : (τ 0).1 0 0 11 = nI w') (a15 : (τ 0).1 15 0 = (σ 0).1 15 0)
    (hz : jSn (τ (14 + w')) (B'.1 72 0)) (b72 : ∀ j, j < 525 → B'.1 72 0 j = (σ 20).1 72 0 j) (bs : ∀ o, o ∈ [75, 76, 83, 91, 92, 93, 95] → B'.1 o = (σ 20).1 o) (bl : ∀ o, o ∈ [78, 79, 94] → B'.2 o = (σ 20).2 o) (b33 : B'.1 70 0 33 = (σ 20).1 70 0 33) : jI (jaU τ 20 B') := by
  obtain ⟨h1, h2, h3, h4, h5, h6, h7, h8⟩ := h
  have n : ∀ k, k ≠ 20 → jaU τ 20 B' k = τ k := fun k hk => jaU_ne hk
  have e20 : jaU τ 20 B' 20 = B' := jaU_eq
  unfold jI
  rw [e20, n 0 (by decide), n 1 (by decide)]
  refine ⟨ht, ?_, ?_, ?_, ?_, hb, hf, ?_⟩
  · obtain ⟨g1, g2, g3, nm, m1, m2, m3⟩ := h2
    unfold jIs jIx
    rw [bs 75 (by decide), bs 76 (by decide), bl 78 (by decide), τn 1 (by decide) (by decide) (by decide) (by decide)]
    refine ⟨jR_525 b72 g2 g1, jW_525 b72 g2, by rw [jz_c (b72 31 (by decide))]; exact g3, nm, m1, fun j hj hu => m2 j hj ?_, fun z => ?_⟩
    · unfold jwU at hu ⊢
      rw [jz_c (b72 0 (by decide)), jz_c (b72 1 (by decide)), jz_c (b72 2 (by decide))] at hu
      exact hu
    · rw [jz_c (b72 2 (by decide))]
      exact m3 z
  · obtain ⟨m, q, a, b, c, d, e, i, k⟩ := h3
    refine ⟨m, q, a, b, (a0 9 (by decide)).trans c, (a0 8 (by decide)).trans d, b33.trans e, ?_, fun j hj => ?_⟩
    · rw [bs 83 (by decide)]
      unfold jIo
      rw [jz_c (b72 32 (by decide)), jz_c (b72 33 (by decide))]
      exact i
    · rw [n _ (by omega), n 1 (by decide), τn _ (by omega) (by omega) (by omega) (by omega), τn 1 (by decide) (by decide) (by decide) (by decide), bs 75 (by decide), bs 76 (by decide), bs 83 (by decide)]
      obtain ⟨y, y1, y2, y3, y4, y5, y6⟩ := k j hj
      exact ⟨y, y1, y2, y3, y4, fun i hi => (y5 i hi).trans (b72 i (by omega)).symm, y6⟩
  · exact ⟨w', hw, a11, by rw [n _ (by omega)]; exact hz⟩
  · intro k hk
    rw [a15, bs 95 (by decide), n _ (by omega), n _ (by omega), τn (11 + k) (by omega) (by omega) (by omega) (by omega), τn (16 + k) (by omega) (by omega) (by omega) (by omega)]
    unfold jIi1
    rw [bs 91 (by decide), bs 92 (by decide), bs 93 (by decide), bl 94 (by decide)]
    exact h5 k hk
  · unfold jIm jmV
    rw [bl 79 (by decide), n 13 (by decide), τn 13 (by decide) (by decide) (by decide) (by decide)]
    exact h8
end
