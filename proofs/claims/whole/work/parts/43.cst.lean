section
/-! the class: a state is another one's, whole -/
theorem jcQ.uc {S : jaS} {o o' c c' i n : Nat} {g : jvA} {v : Int32} (h : jcQ (S.1 o c) g n) (ho : o ≠ o' ∨ c ≠ c') : jcQ ((jaUI S o' c' i v).1 o c) g n := by
  by_cases q : o = o'
  · subst q
    rw [jaUI_c (by omega)]
    exact h
  · exact h.uo q
/-- each copy below n alike -/
def jcQc (S T : jaS) (n m : Nat) : Prop := ∀ c, c < n → jcQ (S.1 51 c) (T.1 51 c) 10 ∧ jcQ (S.1 52 c) (T.1 52 c) m ∧ jcQ (S.1 53 c) (T.1 53 c) m
theorem jcQc.ui {S T : jaS} {n m o c i : Nat} {v : Int32} (h : jcQc S T n m) (hc : n ≤ c) : jcQc (jaUI S o c i v) T n m := fun c' hc' => by
  obtain ⟨a, b, d⟩ := h c' hc'
  exact ⟨a.uc (Or.inr (by omega)), b.uc (Or.inr (by omega)), d.uc (Or.inr (by omega))⟩
theorem sp_Cp_copyFrom {D : Nat} (hD : 1 ≤ D) {kk : jaT → Prop} {σ : jaT} {S T : jaS} {k k1 c n : Nat} (hk : k1 ≠ k) (hT : σ k1 = T) (hn : n ≤ 40) (hq : jcQc S T c n)
    (h : ∀ S', jcG [51, 52, 53] S S' → S'.2 = S.2 → jcQc S' T (c + 1) n → kk (jaU σ k S')) :
    jaDe D jy_Cp_copyFrom [jcCp k c, jcCp k1 c, .inl (nI n)] (jaU σ k S) (jaKv kk) := by
  obtain ⟨D, rfl, hD⟩ := jaSuc hD
  apply js_Cp_copyFrom
  refine jaFor (C := fun i => ∀ S', jcG [51, 52, 53] S S' → S'.2 = S.2 → jcQc S' T c n → jcQ (S'.1 51 c) (T.1 51 c) i → jc_Cp_copyFrom_1 D kk k c k1 c (nI n) (nI i) (jaU σ k S')) (N := 10) ?_ (fun i hi ih => ?_) S jcG.rfl rfl hq jcQ_0
  · intro S' g g2 b a1
    apply jb_Cp_copyFrom_1
    simp (disch := first | omega | decide) only [jaU_eq, jaU_U, nI_add, pk_mul, jaIx_nI, vp_inT, true_and, and_true, ↓jaO0, ↓jaO1, nI_z, nI_z2, nI_z3, nI_z4, nI_z5, nI_lt', nI_le', nI_eq', jaUI_at, jaPt_eq, jaPt_ne, jaUI_o, jaUI_2, jaUL_at, jaUL_o, jaUL_1, jaB_z, jaB_1, ↓jaB_01, Classical.not_not, and_self, true_or, or_true, nI_11, Nat.reduceEqDiff, Nat.reduceAdd, Nat.reduceMul, Nat.add_zero, Nat.zero_add, Nat.mul_zero, not_true_eq_false, not_false_eq_true, false_implies, true_implies]
    refine ⟨fun _ => ?_, fun q => absurd (by omega) q⟩
    refine jaFor (C := fun i => ∀ S', jcG [51, 52, 53] S S' → S'.2 = S.2 → jcQc S' T c n → jcQ (S'.1 51 c) (T.1 51 c) 10 → jcQ (S'.1 52 c) (T.1 52 c) i → jcQ (S'.1 53 c) (T.1 53 c) i → jc_Cp_copyFrom_3 D kk k c k1 c (nI n) (nI i) (jaU σ k S')) (N := n) ?_ (fun i hi ih => ?_) S' g g2 b a1 jcQ_0 jcQ_0
    · intro S' g g2 b a1 a2 a3
      apply jb_Cp_copyFrom_3
      simp (disch := first | omega | decide) only [jaU_eq, jaU_U, nI_add, pk_mul, jaIx_nI, vp_inT, true_and, and_true, ↓jaO0, ↓jaO1, nI_z, nI_z2, nI_z3, nI_z4, nI_z5, nI_lt', nI_le', nI_eq', jaUI_at, jaPt_eq, jaPt_ne, jaUI_o, jaUI_2, jaUL_at, jaUL_o, jaUL_1, jaB_z, jaB_1, ↓jaB_01, Classical.not_not, and_self, true_or, or_true, nI_11, Nat.reduceEqDiff, Nat.reduceAdd, Nat.reduceMul, Nat.add_zero, Nat.zero_add, Nat.mul_zero, not_true_eq_false, not_false_eq_true, false_implies, true_implies]
      refine ⟨fun _ => ?_, fun q => absurd (by omega) q⟩
      refine h S' g g2 (fun c' hc' => ?_)
      by_cases q : c' = c
      · rw [q]
        exact ⟨a1, a2, a3⟩
      · exact b c' (by omega)
    · intro S' g g2 b a1 a2 a3
      apply jb_Cp_copyFrom_3
      simp (disch := first | omega | decide) only [jaU_eq, jaU_U, nI_add, pk_mul, jaIx_nI, vp_inT, true_and, and_true, ↓jaO0, ↓jaO1, nI_z, nI_z2, nI_z3, nI_z4, nI_z5, nI_lt', nI_le', nI_eq', jaUI_at, jaPt_eq, jaPt_ne, jaUI_o, jaUI_2, jaUL_at, jaUL_o, jaUL_1, jaB_z, jaB_1, ↓jaB_01, Classical.not_not, and_self, true_or, or_true, nI_11, Nat.reduceEqDiff, Nat.reduceAdd, Nat.reduceMul, Nat.add_zero, Nat.zero_add, Nat.mul_zero, not_true_eq_false, not_false_eq_true, false_implies, true_implies, jaU_ne hk, hT]
      refine ⟨fun q => absurd q (by omega), fun _ => ?_⟩
      exact ih _ ((g.ui (by decide)).ui (by decide)) g2 ((b.ui (Nat.le_refl _)).ui (Nat.le_refl _)) ((a1.uo (by decide)).uo (by decide)) (a2.ui.uo (by decide)) (a3.uo (by decide)).ui
  · intro S' g g2 b a1
    apply jb_Cp_copyFrom_1
    simp (disch := first | omega | decide) only [jaU_eq, jaU_U, nI_add, pk_mul, jaIx_nI, vp_inT, true_and, and_true, ↓jaO0, ↓jaO1, nI_z, nI_z2, nI_z3, nI_z4, nI_z5, nI_lt', nI_le', nI_eq', jaUI_at, jaPt_eq, jaPt_ne, jaUI_o, jaUI_2, jaUL_at, jaUL_o, jaUL_1, jaB_z, jaB_1, ↓jaB_01, Classical.not_not, and_self, true_or, or_true, nI_11, Nat.reduceEqDiff, Nat.reduceAdd, Nat.reduceMul, Nat.add_zero, Nat.zero_add, Nat.mul_zero, not_true_eq_false, not_false_eq_true, false_implies, true_implies, jaU_ne hk, hT]
    refine ⟨fun q => absurd q (by omega), fun _ => ?_⟩
    exact ih _ (g.ui (by decide)) g2 (b.ui (Nat.le_refl _)) a1.ui
theorem sp_Ck_copyFrom {D : Nat} (hD : 1 ≤ D) {kk : jaT → Prop} {σ : jaT} {S T : jaS} {k k1 n : Nat} (hk : k1 ≠ k) (hT : σ k1 = T) (hb : T.1 44 0 0 = 0 ∨ T.1 44 0 0 = 1) (hn : T.1 44 0 6 = nI n) (hn4 : n ≤ 40)
    (h : ∀ S', jcG [44, 45, 46, 47, 48] S S' → S'.2 = S.2 → jcQ (S'.1 44 0) (T.1 44 0) 4 → S'.1 44 0 6 = nI n → jcQ (S'.1 45 0) (T.1 45 0) 10 → jcQ (S'.1 46 0) (T.1 46 0) 10 → jcQ (S'.1 47 0) (T.1 47 0) 10 → jcQ (S'.1 48 0) (T.1 48 0) n → kk (jaU σ k S')) :
    jaDe D jy_Ck_copyFrom [jcCk k, jcCk k1] (jaU σ k S) (jaKv kk) := by
  obtain ⟨D, rfl, hD⟩ := jaSuc hD
  apply js_Ck_copyFrom
  simp (disch := first | omega | decide) only [jaU_eq, jaU_U, nI_add, pk_mul, jaIx_nI, vp_inT, true_and, and_true, ↓jaO0, ↓jaO1, nI_z, nI_z2, nI_z3, nI_z4, nI_z5, nI_lt', nI_le', nI_eq', jaUI_at, jaPt_eq, jaPt_ne, jaUI_o, jaUI_2, jaUL_at, jaUL_o, jaUL_1, jaB_z, jaB_1, ↓jaB_01, Classical.not_not, and_self, true_or, or_true, nI_11, Nat.reduceEqDiff, Nat.reduceAdd, Nat.reduceMul, Nat.add_zero, Nat.zero_add, Nat.mul_zero, not_true_eq_false, not_false_eq_true, false_implies, true_implies, jaU_ne hk, hT, hb]
  have h6 : jcQ ((jaUI (jaUI (jaUI (jaUI (jaUI S 44 0 0 (T.1 44 0 0)) 44 0 1 (T.1 44 0 1)) 44 0 2 (T.1 44 0 2)) 44 0 3 (T.1 44 0 3)) 44 0 6 (T.1 44 0 6)).1 44 0) (T.1 44 0) 4 := fun j hj => by
    rw [jaUI_at, jaPt_ne (by omega)]
    exact jcQ_0.ui.ui.ui.ui j hj
  rw [hn] at h6
  simp only [hn]
  refine jaFor (C := fun i => ∀ S', jcG [44, 45, 46, 47, 48] S S' → S'.2 = S.2 → jcQ (S'.1 44 0) (T.1 44 0) 4 → S'.1 44 0 6 = nI n → jcQ (S'.1 45 0) (T.1 45 0) i → jcQ (S'.1 46 0) (T.1 46 0) i → jcQ (S'.1 47 0) (T.1 47 0) i → jc_Ck_copyFrom_1 D kk k k1 (nI i) (jaU σ k S')) (N := 10) ?_ (fun i hi ih => ?_) _ (((((jcG.rfl.ui (by decide)).ui (by decide)).ui (by decide)).ui (by decide)).ui (by decide)) rfl h6 (by rw [jaUI_at, jaPt_eq]) jcQ_0 jcQ_0 jcQ_0
  · intro S' g g2 a0 a6 a1 a2 a3
    apply jb_Ck_copyFrom_1
    simp (disch := first | omega | decide) only [jaU_eq, jaU_U, nI_add, pk_mul, jaIx_nI, vp_inT, true_and, and_true, ↓jaO0, ↓jaO1, nI_z, nI_z2, nI_z3, nI_z4, nI_z5, nI_lt', nI_le', nI_eq', jaUI_at, jaPt_eq, jaPt_ne, jaUI_o, jaUI_2, jaUL_at, jaUL_o, jaUL_1, jaB_z, jaB_1, ↓jaB_01, Classical.not_not, and_self, true_or, or_true, nI_11, Nat.reduceEqDiff, Nat.reduceAdd, Nat.reduceMul, Nat.add_zero, Nat.zero_add, Nat.mul_zero, not_true_eq_false, not_false_eq_true, false_implies, true_implies]
    refine ⟨fun _ => ?_, fun q => absurd (by omega) q⟩
    refine jaFor (C := fun i => ∀ S', jcG [44, 45, 46, 47, 48] S S' → S'.2 = S.2 → jcQ (S'.1 44 0) (T.1 44 0) 4 → S'.1 44 0 6 = nI n → jcQ (S'.1 45 0) (T.1 45 0) 10 → jcQ (S'.1 46 0) (T.1 46 0) 10 → jcQ (S'.1 47 0) (T.1 47 0) 10 → jcQ (S'.1 48 0) (T.1 48 0) i → jc_Ck_copyFrom_3 D kk k k1 (nI i) (jaU σ k S')) (N := n) ?_ (fun i hi ih => ?_) S' g g2 a0 a6 a1 a2 a3 jcQ_0
    · intro S' g g2 a0 a6 a1 a2 a3 a4
      apply jb_Ck_copyFrom_3
      simp (disch := first | omega | decide) only [jaU_eq, jaU_U, nI_add, pk_mul, jaIx_nI, vp_inT, true_and, and_true, ↓jaO0, ↓jaO1, nI_z, nI_z2, nI_z3, nI_z4, nI_z5, nI_lt', nI_le', nI_eq', jaUI_at, jaPt_eq, jaPt_ne, jaUI_o, jaUI_2, jaUL_at, jaUL_o, jaUL_1, jaB_z, jaB_1, ↓jaB_01, Classical.not_not, and_self, true_or, or_true, nI_11, Nat.reduceEqDiff, Nat.reduceAdd, Nat.reduceMul, Nat.add_zero, Nat.zero_add, Nat.mul_zero, not_true_eq_false, not_false_eq_true, false_implies, true_implies, a6]
      refine ⟨fun _ => ?_, fun q => absurd (by omega) q⟩
      exact h S' g g2 a0 a6 a1 a2 a3 a4
    · intro S' g g2 a0 a6 a1 a2 a3 a4
      apply jb_Ck_copyFrom_3
      simp (disch := first | omega | decide) only [jaU_eq, jaU_U, nI_add, pk_mul, jaIx_nI, vp_inT, true_and, and_true, ↓jaO0, ↓jaO1, nI_z, nI_z2, nI_z3, nI_z4, nI_z5, nI_lt', nI_le', nI_eq', jaUI_at, jaPt_eq, jaPt_ne, jaUI_o, jaUI_2, jaUL_at, jaUL_o, jaUL_1, jaB_z, jaB_1, ↓jaB_01, Classical.not_not, and_self, true_or, or_true, nI_11, Nat.reduceEqDiff, Nat.reduceAdd, Nat.reduceMul, Nat.add_zero, Nat.zero_add, Nat.mul_zero, not_true_eq_false, not_false_eq_true, false_implies, true_implies, a6, jaU_ne hk, hT]
      refine ⟨fun q => absurd q (by omega), fun _ => ?_⟩
      exact ih _ (g.ui (by decide)) g2 (a0.uo (by decide)) (by rw [jaUI_o (by decide)]; exact a6) (a1.uo (by decide)) (a2.uo (by decide)) (a3.uo (by decide)) a4.ui
  · intro S' g g2 a0 a6 a1 a2 a3
    apply jb_Ck_copyFrom_1
    simp (disch := first | omega | decide) only [jaU_eq, jaU_U, nI_add, pk_mul, jaIx_nI, vp_inT, true_and, and_true, ↓jaO0, ↓jaO1, nI_z, nI_z2, nI_z3, nI_z4, nI_z5, nI_lt', nI_le', nI_eq', jaUI_at, jaPt_eq, jaPt_ne, jaUI_o, jaUI_2, jaUL_at, jaUL_o, jaUL_1, jaB_z, jaB_1, ↓jaB_01, Classical.not_not, and_self, true_or, or_true, nI_11, Nat.reduceEqDiff, Nat.reduceAdd, Nat.reduceMul, Nat.add_zero, Nat.zero_add, Nat.mul_zero, not_true_eq_false, not_false_eq_true, false_implies, true_implies, jaU_ne hk, hT]
    refine ⟨fun q => absurd q (by omega), fun _ => ?_⟩
    exact ih _ (((g.ui (by decide)).ui (by decide)).ui (by decide)) g2 (((a0.uo (by decide)).uo (by decide)).uo (by decide)) (by simp (disch := first | omega | decide) only [jaU_eq, jaU_U, nI_add, pk_mul, jaIx_nI, vp_inT, true_and, and_true, ↓jaO0, ↓jaO1, nI_z, nI_z2, nI_z3, nI_z4, nI_z5, nI_lt', nI_le', nI_eq', jaUI_at, jaPt_eq, jaPt_ne, jaUI_o, jaUI_2, jaUL_at, jaUL_o, jaUL_1, jaB_z, jaB_1, ↓jaB_01, Classical.not_not, and_self, true_or, or_true, nI_11, Nat.reduceEqDiff, Nat.reduceAdd, Nat.reduceMul, Nat.add_zero, Nat.zero_add, Nat.mul_zero, not_true_eq_false, not_false_eq_true, false_implies, true_implies, a6]) ((a1.ui.uo (by decide)).uo (by decide)) ((a2.uo (by decide)).ui.uo (by decide)) ((a3.uo (by decide)).uo (by decide)).ui
/-- what a state speaks of is alike -/
theorem jR_q {S T : jaS} {s d e : jvA} (hR : jR T (s, d, e)) (hW : jW s d e) (w0 : jcQ (S.1 30 0) (T.1 30 0) 5) (w1 : jcQ (S.1 31 0) (T.1 31 0) 10) (w2 : jcQ (S.1 32 0) (T.1 32 0) 10) (w3 : jcQ (S.1 33 0) (T.1 33 0) 3) (w4 : jcQ (S.1 34 0) (T.1 34 0) 3)
    (s0 : S.1 54 0 0 = T.1 54 0 0) (s1 : jcQ (S.1 55 0) (T.1 55 0) (jz s 32)) (s2 : jcQ (S.1 56 0) (T.1 56 0) (jz s 32)) (s3 : jcQ (S.1 57 0) (T.1 57 0) (jz s 32)) (s4 : jcQ (S.1 58 0) (T.1 58 0) (4 * jz s 32)) (s5 : jcQ (S.1 59 0) (T.1 59 0) (42 * jz s 32))
    (e0 : S.1 60 0 0 = T.1 60 0 0) (e0' : S.1 60 0 1 = T.1 60 0 1) (e1 : jcQ (S.1 61 0) (T.1 61 0) (jz s 33)) (e2 : jcQ (S.1 62 0) (T.1 62 0) (jz s 33)) (e3 : jcQ (S.1 63 0) (T.1 63 0) (jz s 33)) (e4 : jcQ (S.1 64 0) (T.1 64 0) (jz s 33)) (e5 : jcQ (S.1 65 0) (T.1 65 0) (jz s 33)) (e6 : jcQ (S.1 66 0) (T.1 66 0) (jz s 33)) (e7 : jcQ (S.1 67 0) (T.1 67 0) (4 * jz s 33)) (e8 : jcQ (S.1 68 0) (T.1 68 0) (jz s 34))
    (c0 : jcQc S T 3 (jz s 34)) (k0 : jcQ (S.1 44 0) (T.1 44 0) 4) (k6 : S.1 44 0 6 = T.1 44 0 6) (k1 : jcQ (S.1 45 0) (T.1 45 0) 10) (k2 : jcQ (S.1 46 0) (T.1 46 0) 10) (k3 : jcQ (S.1 47 0) (T.1 47 0) 10) (k4 : jcQ (S.1 48 0) (T.1 48 0) (jz s 40)) (t : S.1 40 0 5 = T.1 40 0 5) : jR S (s, d, e) := by
  have h10 := hW.w.2.1.2
  have h3 := hW.w.2.2.1.2.2
  have h24 := hW.o.many.2
  refine ⟨⟨⟨?_, ?_, ?_, ?_, ?_⟩, fun q hq => ?_, fun c hc => ?_, fun c hc => ?_⟩, ⟨s0.trans hR.s.1, fun n hn => ?_⟩, fun id hid => ?_, ⟨e0.trans hR.o.1, e0'.trans hR.o.2.1, fun i hi => ?_, fun i hi => ?_⟩, fun c hc => ?_, ⟨?_, fun q36 => ?_, ?_, fun q hq => ?_, fun i hi => ?_⟩, t.trans hR.t, fun id hid q => ?_⟩
  · exact (w0 0 (by omega)).trans hR.w.1.1
  · exact (w0 1 (by omega)).trans hR.w.1.2.1
  · exact (w0 2 (by omega)).trans hR.w.1.2.2.1
  · exact (w0 3 (by omega)).trans hR.w.1.2.2.2.1
  · exact (w0 4 (by omega)).trans hR.w.1.2.2.2.2
  · have hq : q < jz s 1 := hq
    rw [w1 q (by omega), w2 q (by omega)]
    exact hR.w.2.1 q hq
  · have hc : c < jz s 2 := hc
    rw [w3 c (by omega), w4 c (by omega)]
    exact hR.w.2.2.1 c hc
  · rw [w4 c hc]
    exact hR.w.2.2.2 c hc
  · have hn : n < jz s 32 := hn
    obtain ⟨t1, t2, t3, t4, t5⟩ := hR.s.2 n hn
    obtain ⟨-, -, n2, n3, -, n5⟩ := hW.d n hn
    refine ⟨(s1 n hn).trans t1, (s2 n hn).trans t2, (s3 n hn).trans t3, fun j hj => ?_, fun i hi => ?_⟩
    · have hj : j < jz d (133 * n + 2) := hj
      rw [s4 _ (by omega)]
      exact t4 j hj
    · have hi : i < jz d (133 * n + 1) := hi
      obtain ⟨-, -, -, u4, -⟩ := n5 i hi
      have u4' := u4.2
      obtain ⟨r1, r2, r3, r4⟩ := t5 i hi
      refine ⟨?_, ?_, ?_, fun x hx => ?_⟩
      · rw [s5 _ (by omega)]; exact r1
      · rw [s5 _ (by omega)]; exact r2
      · rw [s5 _ (by omega)]; exact r3
      · have hx : x < jz d (133 * n + 7 + 21 * i + 4) := hx
        rw [s5 _ (by omega)]; exact r4 x hx
  · have hid : id < jz s 33 := hid
    obtain ⟨r1, r2, r3, r4, r5⟩ := hR.e id hid
    obtain ⟨⟨-, i1⟩, -⟩ := hW.e id hid
    have n3 := (hW.d _ i1).2.2.2.1.2
    refine ⟨(e1 id hid).trans r1, (e2 id hid).trans r2, (e3 id hid).trans r3, (e4 id hid).trans r4, fun j hj => ?_⟩
    have hj : j < jz d (133 * jz e (9 * id) + 2) := hj
    rw [e7 _ (by omega)]
    exact r5 j hj
  · have hi : i < jz s 34 := hi
    obtain ⟨r1, r2, r3⟩ := hR.o.2.2.1 i hi
    have hid := (hW.o.id hi).2
    refine ⟨(e8 i hi).trans r1, (e5 _ hid).trans r2, ?_⟩
    show ¬ S.1 66 0 (jz s (41 + i)) = -1
    rw [e6 _ hid]
    exact r3
  · have hi : i < jz s 35 := hi
    have hid := (hW.o.come hi).2
    exact ⟨(e5 _ hid).trans (hR.o.2.2.2 i hi).1, (e6 _ hid).trans (hR.o.2.2.2 i hi).2⟩
  · have hc : c < jz s 2 := hc
    obtain ⟨a, b, f⟩ := c0 c (by omega)
    obtain ⟨r1, r2⟩ := hR.c c hc
    refine ⟨fun q hq => ?_, fun i hi => ?_⟩
    · have hq : q < jz s 1 := hq
      rw [a q (by omega)]
      exact r1 q hq
    · have hi : i < jz s 34 := hi
      rw [b i hi, f i hi]
      exact r2 i hi
  · exact (k0 0 (by omega)).trans hR.k.1
  · obtain ⟨⟨r1, r2, r3⟩, r4, r5⟩ := hR.k.2.1 q36
    refine ⟨⟨(k0 1 (by omega)).trans r1, (k0 2 (by omega)).trans r2, (k0 3 (by omega)).trans r3⟩, fun q hq hb => ?_, fun q hq => ?_⟩
    · have hq : q < jz s 1 := hq
      rw [k1 q (by omega)]
      exact r4 q hq hb
    · have hq : q < jz s 38 := hq
      have : jz s 38 < jz s 1 := by
        rcases hW.k.1 with z | z
        · exact absurd (z.1.symm.trans q36) (by decide)
        · exact z.2.2.2.2
      rw [k2 q (by omega)]
      exact r5 q hq
  · exact k6.trans hR.k.2.2.1
  · have hq : q < jz s 1 := hq
    rw [k3 q (by omega)]
    exact hR.k.2.2.2.1 q hq
  · have hi : i < jz s 40 := hi
    rw [k4 i hi]
    exact hR.k.2.2.2.2 i hi
  · have hid : id < jz s 33 := hid
    rw [e6 id hid] at q
    exact hR.p id hid q
theorem jW.b36 {s d e : jvA} (h : jW s d e) : s 36 = 0 ∨ s 36 = 1 := by
  rcases h.k.1 with z | z
  · exact Or.inl z.1
  · exact Or.inr z.1
theorem sp_St_copyFrom {D : Nat} (hD : 3 ≤ D) {kk : jaT → Prop} {σ : jaT} {S T : jaS} {s d e : jvA} {k k1 : Nat} (hk : k1 ≠ k) (hT : σ k1 = T) (hR : jR T (s, d, e)) (hW : jW s d e)
    (h : ∀ S', jR S' (s, d, e) → S'.1 40 0 8 = S.1 40 0 8 → jcQl (S'.2 35 0) (T.2 35 0) 16 → kk (jaU σ k S')) :
    jaDe D jy_St_copyFrom [jcSt k, jcSt k1] (jaU σ k S) (jaKv kk) := by
  obtain ⟨D, rfl, hD⟩ := jaSuc hD
  have h24 := hW.o.many
  have h64 := hW.o.pool
  have hO := hW.o.ord
  have h40 := hW.k.2.1
  apply js_St_copyFrom
  refine sp_Wo_copyFrom (by omega) hk hT hR.w.2.2.2 (fun S1 g1 w0 w1 w2 w3 w4 w5 => ?_)
  refine sp_Sc_copyFrom (by omega) hk hT (hR.s.1.trans h24.1) h24.2 (fun S2 g2 l2 s0 s1 s2 s3 s4 s5 => ?_)
  refine sp_En_copyFrom (by omega) hk hT (hR.o.1.trans h64.1) h64.2 (hR.o.2.1.trans hO.1) hO.2 (fun id hid => ?_) (fun id hid => jR_b65 hR hW hid) (fun S3 g3 l3 e0 e0' e1 e2 e3 e4 e5 e6 e7 e8 => ?_)
  · rw [(hR.e id hid).2.2.2.1]
    exact (hW.e id hid).2.2.2.2
  refine jaFor (C := fun c => ∀ S', jcG [51, 52, 53] S3 S' → S'.2 = S3.2 → jcQc S' T c (jz s 34) → jc_St_copyFrom_1 D kk k k1 (nI c) (jaU σ k S')) (N := 3) ?_ (fun c hc ih => ?_) S3 jcG.rfl rfl (fun _ q => absurd q (by omega))
  · intro S4 g4 l4 c0
    apply jb_St_copyFrom_1
    simp (disch := first | omega | decide) only [jaU_eq, jaU_U, nI_add, pk_mul, jaIx_nI, vp_inT, true_and, and_true, ↓jaO0, ↓jaO1, nI_z, nI_z2, nI_z3, nI_z4, nI_z5, nI_lt', nI_le', nI_eq', jaUI_at, jaPt_eq, jaPt_ne, jaUI_o, jaUI_2, jaUL_at, jaUL_o, jaUL_1, jaB_z, jaB_1, ↓jaB_01, Classical.not_not, and_self, true_or, or_true, nI_11, Nat.reduceEqDiff, Nat.reduceAdd, Nat.reduceMul, Nat.add_zero, Nat.zero_add, Nat.mul_zero, not_true_eq_false, not_false_eq_true, false_implies, true_implies]
    refine ⟨fun _ => ?_, fun q => absurd (by omega) q⟩
    refine sp_Ck_copyFrom (n := jz s 40) (by omega) hk hT ?_ (hR.k.2.2.1.trans h40.1) (by omega) (fun S5 g5 l5 k0 k6 k1' k2 k3 k4 => ?_)
    · rw [hR.k.1]
      exact hW.b36
    simp (disch := first | omega | decide) only [jaU_eq, jaU_U, nI_add, pk_mul, jaIx_nI, vp_inT, true_and, and_true, ↓jaO0, ↓jaO1, nI_z, nI_z2, nI_z3, nI_z4, nI_z5, nI_lt', nI_le', nI_eq', jaUI_at, jaPt_eq, jaPt_ne, jaUI_o, jaUI_2, jaUL_at, jaUL_o, jaUL_1, jaB_z, jaB_1, ↓jaB_01, Classical.not_not, and_self, true_or, or_true, nI_11, Nat.reduceEqDiff, Nat.reduceAdd, Nat.reduceMul, Nat.add_zero, Nat.zero_add, Nat.mul_zero, not_true_eq_false, not_false_eq_true, false_implies, true_implies, jaU_ne hk, hT]
    have G : ∀ o, o ≠ 40 → (jaUI S5 40 0 5 (T.1 40 0 5)).1 o = S5.1 o := fun o ho => jaUI_o ho
    have G4 : ∀ o, o < 44 ∨ 49 ≤ o → S5.1 o = S4.1 o := fun o ho => g5 o (by simp; omega)
    have G3 : ∀ o, o < 51 ∨ 54 ≤ o → S4.1 o = S3.1 o := fun o ho => g4 o (by simp; omega)
    have G2 : ∀ o, o < 60 ∨ 69 ≤ o → S3.1 o = S2.1 o := fun o ho => g3 o (by simp; omega)
    have G1 : ∀ o, o < 54 ∨ 60 ≤ o → S2.1 o = S1.1 o := fun o ho => g2 o (by simp; omega)
    have GE : ∀ o, 60 ≤ o → (jaUI S5 40 0 5 (T.1 40 0 5)).1 o = S3.1 o := fun o ho => (G o (by omega)).trans ((G4 o (by omega)).trans (G3 o (by omega)))
    have GS : ∀ o, 54 ≤ o → o < 60 → (jaUI S5 40 0 5 (T.1 40 0 5)).1 o = S2.1 o := fun o h1 ho => (G o (by omega)).trans ((G4 o (by omega)).trans ((G3 o (by omega)).trans (G2 o (by omega))))
    have GW : ∀ o, 30 ≤ o → o < 35 → (jaUI S5 40 0 5 (T.1 40 0 5)).1 o = S1.1 o := fun o h1 ho => (G o (by omega)).trans ((G4 o (by omega)).trans ((G3 o (by omega)).trans ((G2 o (by omega)).trans (G1 o (by omega)))))
    have GC : ∀ o, 51 ≤ o → o < 54 → (jaUI S5 40 0 5 (T.1 40 0 5)).1 o = S4.1 o := fun o h1 ho => (G o (by omega)).trans (G4 o (by omega))
    refine h _ (jR_q hR hW ?_ ?_ ?_ ?_ ?_ ?_ ?_ ?_ ?_ ?_ ?_ ?_ ?_ ?_ ?_ ?_ ?_ ?_ ?_ ?_ ?_ ?_ ?_ ?_ ?_ ?_ ?_ ?_ (by rw [jaUI_at, jaPt_eq])) ?_ ?_
    · rw [GW 30 (by decide) (by decide)]; exact w0
    · rw [GW 31 (by decide) (by decide)]; exact w1
    · rw [GW 32 (by decide) (by decide)]; exact w2
    · rw [GW 33 (by decide) (by decide)]; exact w3
    · rw [GW 34 (by decide) (by decide)]; exact w4
    · rw [GS 54 (by decide) (by decide)]; exact s0.trans (hR.s.1.trans h24.1).symm
    · rw [GS 55 (by decide) (by decide)]; exact s1
    · rw [GS 56 (by decide) (by decide)]; exact s2
    · rw [GS 57 (by decide) (by decide)]; exact s3
    · rw [GS 58 (by decide) (by decide)]; exact s4
    · rw [GS 59 (by decide) (by decide)]; exact s5
    · rw [GE 60 (by decide)]; exact e0.trans (hR.o.1.trans h64.1).symm
    · rw [GE 60 (by decide)]; exact e0'.trans (hR.o.2.1.trans hO.1).symm
    · rw [GE 61 (by decide)]; exact e1
    · rw [GE 62 (by decide)]; exact e2
    · rw [GE 63 (by decide)]; exact e3
    · rw [GE 64 (by decide)]; exact e4
    · rw [GE 65 (by decide)]; exact e5
    · rw [GE 66 (by decide)]; exact e6
    · rw [GE 67 (by decide)]; exact e7
    · rw [GE 68 (by decide)]; exact e8
    · intro c hc
      rw [GC 51 (by decide) (by decide), GC 52 (by decide) (by decide), GC 53 (by decide) (by decide)]
      exact c0 c hc
    · rw [G 44 (by decide)]; exact k0
    · rw [G 44 (by decide)]; exact k6.trans (hR.k.2.2.1.trans h40.1).symm
    · rw [G 45 (by decide)]; exact k1'
    · rw [G 46 (by decide)]; exact k2
    · rw [G 47 (by decide)]; exact k3
    · rw [G 48 (by decide)]; exact k4
    · rw [jaUI_at, jaPt_ne (by decide), G4 40 (by decide), G3 40 (by decide), G2 40 (by decide), G1 40 (by decide), g1 40 (by decide)]
    · rw [jaUI_2, l5, l4, l3, l2]
      exact w5
  · intro S4 g4 l4 c0
    apply jb_St_copyFrom_1
    have o60 : S4.1 60 0 1 = nI (jz s 34) := by rw [g4 60 (by decide)]; exact e0'
    simp (disch := first | omega | decide) only [jaU_eq, jaU_U, nI_add, pk_mul, jaIx_nI, vp_inT, true_and, and_true, ↓jaO0, ↓jaO1, nI_z, nI_z2, nI_z3, nI_z4, nI_z5, nI_lt', nI_le', nI_eq', jaUI_at, jaPt_eq, jaPt_ne, jaUI_o, jaUI_2, jaUL_at, jaUL_o, jaUL_1, jaB_z, jaB_1, ↓jaB_01, Classical.not_not, and_self, true_or, or_true, nI_11, Nat.reduceEqDiff, Nat.reduceAdd, Nat.reduceMul, Nat.add_zero, Nat.zero_add, Nat.mul_zero, not_true_eq_false, not_false_eq_true, false_implies, true_implies, o60]
    refine ⟨fun q => absurd q (by omega), fun _ => ?_⟩
    refine sp_Cp_copyFrom (by omega) hk hT hO.2 c0 (fun S5 g5 l5 c5 => ?_)
    exact ih S5 (g4.trans g5 (fun _ q => q) (fun _ q => q)) (l5.trans l4) c5
end
