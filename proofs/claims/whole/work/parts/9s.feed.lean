section
/-! feed -/
def jPa (x : Int32) (k : Nat) : Int32 := ((Int32.toUInt32 x >>> (Int32.toUInt32 (nI k) &&& Int32.toUInt32 31)).toInt32) &&& nI 255
def jPm (x : Int32) (k : Nat) : Int32 := (Int32.toInt8 ((Int32.toInt8 (x >>> (nI k &&& 31))).toInt32)).toInt32
def jPb (A : jaS) (x : Int32) (k n : Nat) : jaS := jaUI (jaUI A 1 0 n (jPa x k)) 0 0 1 (nI (n + 1))
def jPq (B : jaS) (x : Int32) (k n : Nat) : jaS := jaUI (jaUI B 71 0 n (jPm x k)) 70 0 2 (nI (n + 1))
theorem jTp_s {A B : jaS} {x : Int32} {k n : Nat} (hk : k = 0 ∨ k = 8 ∨ k = 16 ∨ k = 24) (h : jTp A B n) (hn : n < 940) : jTp (jPb A x k n) (jPq B x k n) (n + 1) := by
  obtain ⟨t1, t2, t3, t4⟩ := h
  unfold jPb jPq
  refine ⟨by omega, by simp (disch := first | omega | decide) only [jaU_eq, jaU_U, nI_add, pk_mul, jaIx_nI, vp_inT, true_and, and_true, ↓jaO0, ↓jaO1, nI_z, nI_z2, nI_z3, nI_z4, nI_z5, nI_lt', nI_le', nI_eq', jaUI_at, jaPt_eq, jaPt_ne, jaUI_o, jaUI_2, jaUL_at, jaUL_o, jaUL_1, jaB_z, jaB_1, ↓jaB_01, Classical.not_not, and_self, true_or, or_true, nI_11, Nat.reduceEqDiff, Nat.reduceAdd, Nat.reduceMul, Nat.add_zero, Nat.zero_add, Nat.mul_zero, not_true_eq_false, not_false_eq_true, false_implies, true_implies], by simp (disch := first | omega | decide) only [jaU_eq, jaU_U, nI_add, pk_mul, jaIx_nI, vp_inT, true_and, and_true, ↓jaO0, ↓jaO1, nI_z, nI_z2, nI_z3, nI_z4, nI_z5, nI_lt', nI_le', nI_eq', jaUI_at, jaPt_eq, jaPt_ne, jaUI_o, jaUI_2, jaUL_at, jaUL_o, jaUL_1, jaB_z, jaB_1, ↓jaB_01, Classical.not_not, and_self, true_or, or_true, nI_11, Nat.reduceEqDiff, Nat.reduceAdd, Nat.reduceMul, Nat.add_zero, Nat.zero_add, Nat.mul_zero, not_true_eq_false, not_false_eq_true, false_implies, true_implies], fun j hj => ?_⟩
  by_cases e : j = n
  · subst e
    simp (disch := first | omega | decide) only [jaU_eq, jaU_U, nI_add, pk_mul, jaIx_nI, vp_inT, true_and, and_true, ↓jaO0, ↓jaO1, nI_z, nI_z2, nI_z3, nI_z4, nI_z5, nI_lt', nI_le', nI_eq', jaUI_at, jaPt_eq, jaPt_ne, jaUI_o, jaUI_2, jaUL_at, jaUL_o, jaUL_1, jaB_z, jaB_1, ↓jaB_01, Classical.not_not, and_self, true_or, or_true, nI_11, Nat.reduceEqDiff, Nat.reduceAdd, Nat.reduceMul, Nat.add_zero, Nat.zero_add, Nat.mul_zero, not_true_eq_false, not_false_eq_true, false_implies, true_implies]
    unfold jPa jPm
    rw [jb8 hk]
    exact ⟨rfl, jbLt⟩
  · simp (disch := first | omega | decide) only [jaU_eq, jaU_U, nI_add, pk_mul, jaIx_nI, vp_inT, true_and, and_true, ↓jaO0, ↓jaO1, nI_z, nI_z2, nI_z3, nI_z4, nI_z5, nI_lt', nI_le', nI_eq', jaUI_at, jaPt_eq, jaPt_ne, jaUI_o, jaUI_2, jaUL_at, jaUL_o, jaUL_1, jaB_z, jaB_1, ↓jaB_01, Classical.not_not, and_self, true_or, or_true, nI_11, Nat.reduceEqDiff, Nat.reduceAdd, Nat.reduceMul, Nat.add_zero, Nat.zero_add, Nat.mul_zero, not_true_eq_false, not_false_eq_true, false_implies, true_implies, e]
    exact t4 j hj
theorem jPb_r {A : jaS} {x : Int32} {k n : Nat} : jPr A (jPb A x k n) := by
  unfold jPb
  refine ⟨fun o h0 h1 => ?_, fun j hj => ?_⟩
  · funext a
    simp (disch := first | omega | decide) only [jaU_eq, jaU_U, nI_add, pk_mul, jaIx_nI, vp_inT, true_and, and_true, ↓jaO0, ↓jaO1, nI_z, nI_z2, nI_z3, nI_z4, nI_z5, nI_lt', nI_le', nI_eq', jaUI_at, jaPt_eq, jaPt_ne, jaUI_o, jaUI_2, jaUL_at, jaUL_o, jaUL_1, jaB_z, jaB_1, ↓jaB_01, Classical.not_not, and_self, true_or, or_true, nI_11, Nat.reduceEqDiff, Nat.reduceAdd, Nat.reduceMul, Nat.add_zero, Nat.zero_add, Nat.mul_zero, not_true_eq_false, not_false_eq_true, false_implies, true_implies, h0, h1]
  · rw [jaUI_at, jaPt_ne hj]
    simp (disch := first | omega | decide) only [jaU_eq, jaU_U, nI_add, pk_mul, jaIx_nI, vp_inT, true_and, and_true, ↓jaO0, ↓jaO1, nI_z, nI_z2, nI_z3, nI_z4, nI_z5, nI_lt', nI_le', nI_eq', jaUI_at, jaPt_eq, jaPt_ne, jaUI_o, jaUI_2, jaUL_at, jaUL_o, jaUL_1, jaB_z, jaB_1, ↓jaB_01, Classical.not_not, and_self, true_or, or_true, nI_11, Nat.reduceEqDiff, Nat.reduceAdd, Nat.reduceMul, Nat.add_zero, Nat.zero_add, Nat.mul_zero, not_true_eq_false, not_false_eq_true, false_implies, true_implies]
theorem jPq_f {B : jaS} {x : Int32} {k n : Nat} : jaFr [71] [2] B (jPq B x k n) := ((jaFr.rfl.ui (by decide) (by decide)).uf (by decide))
noncomputable def jPb4 (A : jaS) (x : Int32) (n : Nat) : jaS := jPb (jPb (jPb (jPb A x 24 n) x 16 (n + 1)) x 8 (n + 2)) x 0 (n + 3)
noncomputable def jPq4 (B : jaS) (x : Int32) (n : Nat) : jaS := jPq (jPq (jPq (jPq B x 24 n) x 16 (n + 1)) x 8 (n + 2)) x 0 (n + 3)
theorem jP4 {A B : jaS} {x : Int32} {n : Nat} (h : jTp A B n) (hn : n + 4 ≤ 940) : jTp (jPb4 A x n) (jPq4 B x n) (n + 4) ∧ jPr A (jPb4 A x n) ∧ jaFr [71] [2] B (jPq4 B x n) :=
  ⟨jTp_s (by decide) (jTp_s (by decide) (jTp_s (by decide) (jTp_s (by decide) h (by omega)) (by omega)) (by omega)) (by omega), ((jPb_r.trans jPb_r).trans jPb_r).trans jPb_r, ((jPq_f.trans jPq_f).trans jPq_f).trans jPq_f⟩
theorem jPb1 {D : Nat} {kk : jaT → Prop} {τ : jaT} {A : jaS} {x : Int32} {k n : Nat} (hn : n < 940) (hk : k < 25) (ha : A.1 0 0 1 = nI n) (h : jc_A_putBytes_1 D kk x (nI k + (-8 : Int32)) (jaU τ 0 (jPb A x k n))) : jc_A_putBytes_1 D kk x (nI k) (jaU τ 0 A) := by
  apply jb_A_putBytes_1
  unfold jPb jPa at h
  simp (disch := first | omega | decide) only [jaU_eq, jaU_U, nI_add, pk_mul, jaIx_nI, vp_inT, true_and, and_true, ↓jaO0, ↓jaO1, nI_z, nI_z2, nI_z3, nI_z4, nI_z5, nI_lt', nI_le', nI_eq', jaUI_at, jaPt_eq, jaPt_ne, jaUI_o, jaUI_2, jaUL_at, jaUL_o, jaUL_1, jaB_z, jaB_1, ↓jaB_01, Classical.not_not, and_self, true_or, or_true, nI_11, Nat.reduceEqDiff, Nat.reduceAdd, Nat.reduceMul, Nat.add_zero, Nat.zero_add, Nat.mul_zero, not_true_eq_false, not_false_eq_true, false_implies, true_implies, ha]
  exact ⟨fun z => absurd z (by omega), fun _ => h⟩
theorem jPq1 {D : Nat} {kk : jaT → Prop} {τ : jaT} {B : jaS} {x : Int32} {k n : Nat} (hn : n < 940) (hk : k < 25) (ha : B.1 70 0 2 = nI n) (h : jc_M_four_1 D kk x (nI k + (-8 : Int32)) (jaU τ 20 (jPq B x k n))) : jc_M_four_1 D kk x (nI k) (jaU τ 20 B) := by
  apply jb_M_four_1
  unfold jPq jPm at h
  simp (disch := first | omega | decide) only [jaU_eq, jaU_U, nI_add, pk_mul, jaIx_nI, vp_inT, true_and, and_true, ↓jaO0, ↓jaO1, nI_z, nI_z2, nI_z3, nI_z4, nI_z5, nI_lt', nI_le', nI_eq', jaUI_at, jaPt_eq, jaPt_ne, jaUI_o, jaUI_2, jaUL_at, jaUL_o, jaUL_1, jaB_z, jaB_1, ↓jaB_01, Classical.not_not, and_self, true_or, or_true, nI_11, Nat.reduceEqDiff, Nat.reduceAdd, Nat.reduceMul, Nat.add_zero, Nat.zero_add, Nat.mul_zero, not_true_eq_false, not_false_eq_true, false_implies, true_implies, ha]
  exact h
theorem jPz1 : nI 24 + (-8 : Int32) = nI 16 := by decide
theorem jPz2 : nI 16 + (-8 : Int32) = nI 8 := by decide
theorem jPz3 : nI 8 + (-8 : Int32) = nI 0 := by decide
theorem jPz4 : nI 0 + (-8 : Int32) < 0 := by decide
theorem sp_A_putBytes {D : Nat} (hD : 1 ≤ D) {kk : jaT → Prop} {τ : jaT} {A : jaS} {x : Int32} {n : Nat} (hn : n + 4 ≤ 940) (ha : A.1 0 0 1 = nI n) (h : kk (jaU τ 0 (jPb4 A x n))) : jaDe D jy_A_putBytes [jcA, .inl x] (jaU τ 0 A) (jaKv kk) := by
  have e : ∀ C k n', (jPb C x k n').1 0 0 1 = nI (n' + 1) := fun C k n' => by
    unfold jPb
    simp (disch := first | omega | decide) only [jaU_eq, jaU_U, nI_add, pk_mul, jaIx_nI, vp_inT, true_and, and_true, ↓jaO0, ↓jaO1, nI_z, nI_z2, nI_z3, nI_z4, nI_z5, nI_lt', nI_le', nI_eq', jaUI_at, jaPt_eq, jaPt_ne, jaUI_o, jaUI_2, jaUL_at, jaUL_o, jaUL_1, jaB_z, jaB_1, ↓jaB_01, Classical.not_not, and_self, true_or, or_true, nI_11, Nat.reduceEqDiff, Nat.reduceAdd, Nat.reduceMul, Nat.add_zero, Nat.zero_add, Nat.mul_zero, not_true_eq_false, not_false_eq_true, false_implies, true_implies]
  obtain ⟨D, rfl, hD⟩ := jaSuc hD
  apply js_A_putBytes
  refine jPb1 (n := n) (by omega) (by decide) ha ?_
  rw [jPz1]
  refine jPb1 (n := n + 1) (by omega) (by decide) (e _ _ _) ?_
  rw [jPz2]
  refine jPb1 (n := n + 2) (by omega) (by decide) (e _ _ _) ?_
  rw [jPz3]
  refine jPb1 (n := n + 3) (by omega) (by decide) (e _ _ _) ?_
  apply jb_A_putBytes_1
  exact ⟨fun _ => h, fun z => absurd jPz4 z⟩
theorem sp_M_four {D : Nat} (hD : 1 ≤ D) {kk : jaT → Prop} {τ : jaT} {B : jaS} {x : Int32} {n : Nat} (hn : n + 4 ≤ 940) (ha : B.1 70 0 2 = nI n) (h : kk (jaU τ 20 (jPq4 B x n))) : jaDe D jy_M_four [jaMo, .inl x] (jaU τ 20 B) (jaKv kk) := by
  have e : ∀ C k n', (jPq C x k n').1 70 0 2 = nI (n' + 1) := fun C k n' => by
    unfold jPq
    simp (disch := first | omega | decide) only [jaU_eq, jaU_U, nI_add, pk_mul, jaIx_nI, vp_inT, true_and, and_true, ↓jaO0, ↓jaO1, nI_z, nI_z2, nI_z3, nI_z4, nI_z5, nI_lt', nI_le', nI_eq', jaUI_at, jaPt_eq, jaPt_ne, jaUI_o, jaUI_2, jaUL_at, jaUL_o, jaUL_1, jaB_z, jaB_1, ↓jaB_01, Classical.not_not, and_self, true_or, or_true, nI_11, Nat.reduceEqDiff, Nat.reduceAdd, Nat.reduceMul, Nat.add_zero, Nat.zero_add, Nat.mul_zero, not_true_eq_false, not_false_eq_true, false_implies, true_implies]
  obtain ⟨D, rfl, hD⟩ := jaSuc hD
  apply js_M_four
  refine jPq1 (n := n) (by omega) (by decide) ha ?_
  rw [jPz1]
  refine jPq1 (n := n + 1) (by omega) (by decide) (e _ _ _) ?_
  rw [jPz2]
  refine jPq1 (n := n + 2) (by omega) (by decide) (e _ _ _) ?_
  rw [jPz3]
  refine jPq1 (n := n + 3) (by omega) (by decide) (e _ _ _) ?_
  apply jb_M_four_1
  exact ⟨fun _ => h, fun z => absurd jPz4 z⟩
theorem jf_feed {x1 x2 x3 x4 x5 : Int32} : jFc jy_A_feed jy_M_feed [.inl x1, .inl x2, .inl x3, .inl x4, .inl x5] := by
  intro σ hI
  obtain ⟨n, t⟩ := hI.T
  have hI0 := jI_0 (v := nI 0) hI
  obtain ⟨t1, t2, t3, t4⟩ := id t
  apply js_A_feed
  rw [t2]
  simp (disch := first | omega | decide) only [jaU_eq, jaU_U, nI_add, pk_mul, jaIx_nI, vp_inT, true_and, and_true, ↓jaO0, ↓jaO1, nI_z, nI_z2, nI_z3, nI_z4, nI_z5, nI_lt', nI_le', nI_eq', jaUI_at, jaPt_eq, jaPt_ne, jaUI_o, jaUI_2, jaUL_at, jaUL_o, jaUL_1, jaB_z, jaB_1, ↓jaB_01, Classical.not_not, and_self, true_or, or_true, nI_11, Nat.reduceEqDiff, Nat.reduceAdd, Nat.reduceMul, Nat.add_zero, Nat.zero_add, Nat.mul_zero, not_true_eq_false, not_false_eq_true, false_implies, true_implies]
  refine ⟨fun z => ?_, fun z => ?_⟩
  · have f0 : jaFr [] [0] (σ 20) (jaUI (σ 20) 70 0 0 (nI 0)) := jaFr.rfl.uf (by decide)
    have tB : jTp (σ 0) (jaUI (σ 20) 70 0 0 (nI 0)) n := ⟨t1, t2, by simp (disch := first | omega | decide) only [jaU_eq, jaU_U, nI_add, pk_mul, jaIx_nI, vp_inT, true_and, and_true, ↓jaO0, ↓jaO1, nI_z, nI_z2, nI_z3, nI_z4, nI_z5, nI_lt', nI_le', nI_eq', jaUI_at, jaPt_eq, jaPt_ne, jaUI_o, jaUI_2, jaUL_at, jaUL_o, jaUL_1, jaB_z, jaB_1, ↓jaB_01, Classical.not_not, and_self, true_or, or_true, nI_11, Nat.reduceEqDiff, Nat.reduceAdd, Nat.reduceMul, Nat.add_zero, Nat.zero_add, Nat.mul_zero, not_true_eq_false, not_false_eq_true, false_implies, true_implies, t3], fun j hj => by simp (disch := first | omega | decide) only [jaU_eq, jaU_U, nI_add, pk_mul, jaIx_nI, vp_inT, true_and, and_true, ↓jaO0, ↓jaO1, nI_z, nI_z2, nI_z3, nI_z4, nI_z5, nI_lt', nI_le', nI_eq', jaUI_at, jaPt_eq, jaPt_ne, jaUI_o, jaUI_2, jaUL_at, jaUL_o, jaUL_1, jaB_z, jaB_1, ↓jaB_01, Classical.not_not, and_self, true_or, or_true, nI_11, Nat.reduceEqDiff, Nat.reduceAdd, Nat.reduceMul, Nat.add_zero, Nat.zero_add, Nat.mul_zero, not_true_eq_false, not_false_eq_true, false_implies, true_implies]; exact t4 j hj⟩
    generalize hB : jaUI (σ 20) 70 0 0 (nI 0) = B0 at f0 tB
    obtain ⟨a1, b1, c1⟩ := jP4 (x := x1) tB (by omega)
    obtain ⟨a2, b2, c2⟩ := jP4 (x := x2) a1 (by omega)
    obtain ⟨a3, b3, c3⟩ := jP4 (x := x3) a2 (by omega)
    obtain ⟨a4, b4, c4⟩ := jP4 (x := x4) a3 (by omega)
    obtain ⟨a5, b5, c5⟩ := jP4 (x := x5) a4 (by omega)
    rw [jaAs (τ := σ) (k := 0) rfl]
    refine sp_A_putBytes (n := n) (by omega) (by omega) t2 ?_
    refine sp_A_putBytes (n := n + 4) (by omega) (by omega) a1.2.1 ?_
    refine sp_A_putBytes (n := n + 8) (by omega) (by omega) a2.2.1 ?_
    refine sp_A_putBytes (n := n + 12) (by omega) (by omega) a3.2.1 ?_
    refine sp_A_putBytes (n := n + 16) (by omega) (by omega) a4.2.1 ?_
    rw [jaU_eq, a5.2.1]
    generalize hA5 : jPb4 (jPb4 (jPb4 (jPb4 (jPb4 (σ 0) x1 n) x2 (n + 4)) x3 (n + 4 + 4)) x4 (n + 4 + 4 + 4)) x5 (n + 4 + 4 + 4 + 4) = A5 at *
    refine jaAk (k := 20) (B := σ 20) (P := fun τ => jaDe 12 jy_M_feed [jaMo, .inl x1, .inl x2, .inl x3, .inl x4, .inl x5] τ (jaKi fun b σ2 => nI (n + 4 + 4 + 4 + 4 + 4) = b ∧ jI σ2)) (jaU_ne (by decide)) ?_
    apply js_M_feed
    simp only [jaU_eq, jaU_U, hB]
    have tB2 := tB.2.2.1
    simp (disch := first | omega | decide) only [jaU_eq, jaU_U, nI_add, pk_mul, jaIx_nI, vp_inT, true_and, and_true, ↓jaO0, ↓jaO1, nI_z, nI_z2, nI_z3, nI_z4, nI_z5, nI_lt', nI_le', nI_eq', jaUI_at, jaPt_eq, jaPt_ne, jaUI_o, jaUI_2, jaUL_at, jaUL_o, jaUL_1, jaB_z, jaB_1, ↓jaB_01, Classical.not_not, and_self, true_or, or_true, nI_11, Nat.reduceEqDiff, Nat.reduceAdd, Nat.reduceMul, Nat.add_zero, Nat.zero_add, Nat.mul_zero, not_true_eq_false, not_false_eq_true, false_implies, true_implies, tB2]
    refine ⟨fun _ => ?_, fun y => absurd z y⟩
    refine sp_M_four (n := n) (by omega) (by omega) tB2 ?_
    refine sp_M_four (n := n + 4) (by omega) (by omega) a1.2.2.1 ?_
    refine sp_M_four (n := n + 8) (by omega) (by omega) a2.2.2.1 ?_
    refine sp_M_four (n := n + 12) (by omega) (by omega) a3.2.2.1 ?_
    refine sp_M_four (n := n + 16) (by omega) (by omega) a4.2.2.1 ?_
    have e5 := a5.2.2.1
    rw [jaU_eq]
    refine ⟨e5.symm, ?_⟩
    refine jI_T (n := n + 4 + 4 + 4 + 4 + 4) hI (fun k hk => jaU_ne hk) ?_ ?_ ((f0.mono (by decide) (by decide)).trans (((((c1.trans c2).trans c3).trans c4).trans c5).mono (by decide) (by decide)))
    · rw [jaU_eq]
      exact (((b1.trans b2).trans b3).trans b4).trans b5
    · rw [jaU_eq]
      exact a5
  · apply js_M_feed
    simp (disch := first | omega | decide) only [jaU_eq, jaU_U, nI_add, pk_mul, jaIx_nI, vp_inT, true_and, and_true, ↓jaO0, ↓jaO1, nI_z, nI_z2, nI_z3, nI_z4, nI_z5, nI_lt', nI_le', nI_eq', jaUI_at, jaPt_eq, jaPt_ne, jaUI_o, jaUI_2, jaUL_at, jaUL_o, jaUL_1, jaB_z, jaB_1, ↓jaB_01, Classical.not_not, and_self, true_or, or_true, nI_11, Nat.reduceEqDiff, Nat.reduceAdd, Nat.reduceMul, Nat.add_zero, Nat.zero_add, Nat.mul_zero, not_true_eq_false, not_false_eq_true, false_implies, true_implies, t3, z]
    exact hI0
end
