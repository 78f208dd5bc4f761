section
/-! the class: serially, for a Search -/
def jfF (k : Nat) (τ τ' : jaT) : Prop := (∀ q, q ≠ 0 → q ≠ k → τ' q = τ q) ∧ jcF [42, 43] (τ k) (τ' k) ∧ (∀ o, o < 16 ∨ 20 ≤ o → (τ' 0).1 o = (τ 0).1 o) ∧ (τ' 0).2 = (τ 0).2
theorem jfF.rfl {k : Nat} {τ : jaT} : jfF k τ τ := ⟨fun _ _ _ => Eq.refl _, jcF.rfl, fun _ _ => Eq.refl _, Eq.refl _⟩
theorem jfF.trans {k : Nat} {τ τ' τ'' : jaT} (h : jfF k τ τ') (h' : jfF k τ' τ'') : jfF k τ τ'' := ⟨fun q a b => (h'.1 q a b).trans (h.1 q a b), h.2.1.trans h'.2.1, fun o ho => (h'.2.2.1 o ho).trans (h.2.2.1 o ho), h'.2.2.2.trans h.2.2.2⟩
theorem jfF.u {k o j : Nat} {τ τ' : jaT} {v : Int32} (hk : k ≠ 0) (h : jfF k τ τ') (ho : 16 ≤ o) (ho2 : o < 20) : jfF k τ (jaU τ' 0 (jaUI (τ' 0) o 0 j v)) := by
  refine ⟨fun q a b => by rw [jaU_ne a]; exact h.1 q a b, by rw [jaU_ne hk]; exact h.2.1, fun p hp => ?_, ?_⟩
  · rw [jaU_eq, jaUI_o (by omega)]
    exact h.2.2.1 p hp
  · rw [jaU_eq]
    exact h.2.2.2
theorem jfF.r {k : Nat} {τ τ' : jaT} {x : jvX} (h : jfF k τ τ') (hR : jR (τ k) x) : jR (τ' k) x := jR_S (fun o h1 h2 _ => h.2.1.s o (by simp; omega)) hR
/-- sorts of a Search but some -/
def jfS (A : List Nat) (τ τ' : jaT) : Prop := ∀ o, 16 ≤ o → o < 20 → o ∉ A → (τ' 0).1 o = (τ 0).1 o
theorem sp_St_beginSerially_18 {D : Nat} (hD : 1 ≤ D) {kk : jaT → Prop} {τ : jaT} {s d e : jvA} {k : Nat} (hk : k ≠ 0) (hR : jR (τ k) (s, d, e)) (hW : jW s d e) (h : ∀ τ', jfF k τ τ' → jfS [18] τ τ' → (∀ q, q < jz s 1 → (τ' 0).1 18 0 q = s (15 + q)) → kk τ') : jaDe D jy_St_beginSerially [jcSt k, .inr (.inr (18, 0, 0))] τ (jaKv kk) := by
  obtain ⟨D, rfl, hD⟩ := jaSuc hD
  obtain ⟨hK, hK'⟩ := hW.w.2.1
  apply js_St_beginSerially_18
  refine jaFor (C := fun i => ∀ τ', jfF k τ τ' → jfS [18] τ τ' → (∀ q, q < i → (τ' 0).1 18 0 q = s (15 + q)) → jc_St_beginSerially_18_1 D kk k (nI i) τ') (N := jz s 1) ?_ (fun i hi ih => ?_) τ jfF.rfl (fun _ _ _ _ => rfl) (fun _ q => absurd q (by omega))
  · intro τ' f g a
    have w1 : (τ' k).1 30 0 1 = nI (jz s 1) := (f.r hR).w.1.2.1.trans hK
    apply jb_St_beginSerially_18_1
    simp (disch := first | omega | decide) only [jaU_eq, jaU_U, nI_add, pk_mul, jaIx_nI, vp_inT, true_and, and_true, ↓jaO0, ↓jaO1, nI_z, nI_z2, nI_z3, nI_z4, nI_z5, nI_lt', nI_le', nI_eq', jaUI_at, jaPt_eq, jaPt_ne, jaUI_o, jaUI_2, jaUL_at, jaUL_o, jaUL_1, jaB_z, jaB_1, ↓jaB_01, Classical.not_not, and_self, true_or, or_true, nI_11, Nat.reduceEqDiff, Nat.reduceAdd, Nat.reduceMul, Nat.add_zero, Nat.zero_add, Nat.mul_zero, not_true_eq_false, not_false_eq_true, false_implies, true_implies, w1]
    refine ⟨fun _ => ?_, fun q => absurd (by omega) q⟩
    exact h τ' f g a
  · intro τ' f g a
    have w1 : (τ' k).1 30 0 1 = nI (jz s 1) := (f.r hR).w.1.2.1.trans hK
    have w2 : (τ' k).1 32 0 i = s (15 + i) := ((f.r hR).w.2.1 i hi).2
    apply jb_St_beginSerially_18_1
    simp (disch := first | omega | decide) only [jaU_eq, jaU_U, nI_add, pk_mul, jaIx_nI, vp_inT, true_and, and_true, ↓jaO0, ↓jaO1, nI_z, nI_z2, nI_z3, nI_z4, nI_z5, nI_lt', nI_le', nI_eq', jaUI_at, jaPt_eq, jaPt_ne, jaUI_o, jaUI_2, jaUL_at, jaUL_o, jaUL_1, jaB_z, jaB_1, ↓jaB_01, Classical.not_not, and_self, true_or, or_true, nI_11, Nat.reduceEqDiff, Nat.reduceAdd, Nat.reduceMul, Nat.add_zero, Nat.zero_add, Nat.mul_zero, not_true_eq_false, not_false_eq_true, false_implies, true_implies, w1, w2]
    refine ⟨fun q => absurd q (by omega), fun _ => ?_⟩
    refine ih _ (f.u hk (by decide) (by decide)) (fun o h1 h2 h3 => ?_) (fun q hq => ?_)
    · rw [jaU_eq, jaUI_o (fun z => h3 (by rw [z]; exact List.mem_cons_self))]
      exact g o h1 h2 h3
    · rw [jaU_eq]
      by_cases z : q = i
      · rw [z]
        simp (disch := first | omega | decide) only [jaU_eq, jaU_U, nI_add, pk_mul, jaIx_nI, vp_inT, true_and, and_true, ↓jaO0, ↓jaO1, nI_z, nI_z2, nI_z3, nI_z4, nI_z5, nI_lt', nI_le', nI_eq', jaUI_at, jaPt_eq, jaPt_ne, jaUI_o, jaUI_2, jaUL_at, jaUL_o, jaUL_1, jaB_z, jaB_1, ↓jaB_01, Classical.not_not, and_self, true_or, or_true, nI_11, Nat.reduceEqDiff, Nat.reduceAdd, Nat.reduceMul, Nat.add_zero, Nat.zero_add, Nat.mul_zero, not_true_eq_false, not_false_eq_true, false_implies, true_implies]
      · rw [jaUI_at, jaPt_ne z]
        exact a q (by omega)
set_option maxHeartbeats 1000000 in
theorem sp_St_runSerially_18 {D : Nat} (hD : 4 ≤ D) {kk : jaT → Prop} {τ : jaT} {s d e r : jvA} {k i : Nat} (hk : k ≠ 0) (hR : jR (τ k) (s, d, e)) (hW : jW s d e) (hi : i < jz s 34) (hr : ∀ q, q < jz s 1 → (τ 0).1 18 0 q = r q) (h : ∀ τ', jfF k τ τ' → jfS [18] τ τ' → (∀ q, q < jz s 1 → (τ' 0).1 18 0 q = jvSr1 s d e i r q) → kk τ') : jaDe D jy_St_runSerially [jcSt k, .inl (nI i), .inr (.inr (18, 0, 0))] τ (jaKv kk) := by
  obtain ⟨D, rfl, hD⟩ := jaSuc hD
  have hO := hW.o.ord.2
  have hP := hW.o.pool.2
  have hM := hW.o.many.2
  obtain ⟨hid, hid'⟩ := hW.o.id hi
  obtain ⟨⟨hn, hn'⟩, hsite, hfl, hws, hwide⟩ := hW.e _ hid'
  have hwn := hW.d _ hn'
  obtain ⟨o1, o2, o3⟩ := hR.o.2.2.1 i hi
  obtain ⟨i1, i2, i3, i4, i5⟩ := hR.e _ hid'
  have hRt := hR.s.2 _ hn'
  obtain ⟨hK, hK'⟩ := hW.w.2.1
  have o1 : (τ k).1 68 0 i = nI (jz s (41 + i)) := o1.trans hid
  have i1 : (τ k).1 61 0 (jz s (41 + i)) = nI (jz e (9 * jz s (41 + i))) := i1.trans hn
  have w1 : (τ k).1 30 0 1 = nI (jz s 1) := hR.w.1.2.1.trans hK
  have hII2 : jvId s i = jz s (41 + i) := rfl
  unfold jvSr1 at h
  rw [hK, hII2] at h
  apply js_St_runSerially_18
  simp (disch := first | omega | decide) only [jaU_eq, jaU_U, nI_add, pk_mul, jaIx_nI, vp_inT, true_and, and_true, ↓jaO0, ↓jaO1, nI_z, nI_z2, nI_z3, nI_z4, nI_z5, nI_lt', nI_le', nI_eq', jaUI_at, jaPt_eq, jaPt_ne, jaUI_o, jaUI_2, jaUL_at, jaUL_o, jaUL_1, jaB_z, jaB_1, ↓jaB_01, Classical.not_not, and_self, true_or, or_true, nI_11, Nat.reduceEqDiff, Nat.reduceAdd, Nat.reduceMul, Nat.add_zero, Nat.zero_add, Nat.mul_zero, not_true_eq_false, not_false_eq_true, false_implies, true_implies, o1, i1, w1]
  rw [show jz s (41 + i) * 4 = 4 * jz s (41 + i) by omega]
  have is : jaDe D jy_Sc_run [jcSc k, .inl (nI (jz e (9 * jz s (41 + i)))), .inr (.inr (67, k, 0)), .inl (nI (4 * jz s (41 + i))), .inr (.inr (18, 0, 0)), .inr (.inr (42, k, 0)), .inl (nI (jz s 1))] (jaU τ k (τ k)) (jaKi fun r2 σ1 => (¬ r2 = nI 2 → kk σ1) ∧ (r2 = nI 2 → jc_St_runSerially_18_1 D kk k (nI i) (nI (jz s (41 + i))) r2 (nI 0) σ1)) := by
    refine sp_Sc_run_18 (R := r) (e := e) (d := d) (by omega) (Ne.symm hk) hRt (by omega) hwn hK' (by omega) hn i5 hfl hr ?_
    intro S1 f1 hg1
    have f1' : jfF k τ (jaU τ k S1) := ⟨fun q _ b => jaU_ne b, by rw [jaU_eq]; exact f1.mono (by decide), fun o _ => by rw [jaU_ne (Ne.symm hk)], by rw [jaU_ne (Ne.symm hk)]⟩
    have g1' : jfS [18] τ (jaU τ k S1) := fun o _ _ _ => by rw [jaU_ne (Ne.symm hk)]
    have e42 : (jaU τ k S1) k = S1 := jaU_eq
    have e18 : ((jaU τ k S1) 0).1 18 = (τ 0).1 18 := by rw [jaU_ne (Ne.symm hk)]
    generalize jaU τ k S1 = τ1 at *
    generalize hG : jvGo r d e (nI (jz s 1)) (jz s (41 + i)) = g at *
    obtain ⟨how, v, w⟩ := g
    refine ⟨fun q => ?_, fun q => ?_⟩
    · rw [jaIf1_f q] at h
      exact h τ1 f1' g1' (fun q hq => by rw [e18]; exact hr q hq)
    · have hv := hg1 v w (by have q : how = nI 2 := q; rw [q])
      rw [jaIf1_t q] at h
      refine jaFor (C := fun j => ∀ τ', jfF k τ τ' → jfS [18] τ τ' → τ' k = S1 → (∀ q, q < j → (τ' 0).1 18 0 q = v q) → jc_St_runSerially_18_1 D kk k (nI i) (nI (jz s (41 + i))) how (nI j) τ') (N := jz s 1) ?_ (fun j hj ih => ?_) τ1 f1' g1' e42 (fun _ q => absurd q (by omega))
      · intro τ' f gg ek a
        have w1 : (τ' k).1 30 0 1 = nI (jz s 1) := (f.r hR).w.1.2.1.trans hK
        apply jb_St_runSerially_18_1
        simp (disch := first | omega | decide) only [jaU_eq, jaU_U, nI_add, pk_mul, jaIx_nI, vp_inT, true_and, and_true, ↓jaO0, ↓jaO1, nI_z, nI_z2, nI_z3, nI_z4, nI_z5, nI_lt', nI_le', nI_eq', jaUI_at, jaPt_eq, jaPt_ne, jaUI_o, jaUI_2, jaUL_at, jaUL_o, jaUL_1, jaB_z, jaB_1, ↓jaB_01, Classical.not_not, and_self, true_or, or_true, nI_11, Nat.reduceEqDiff, Nat.reduceAdd, Nat.reduceMul, Nat.add_zero, Nat.zero_add, Nat.mul_zero, not_true_eq_false, not_false_eq_true, false_implies, true_implies, w1]
        refine ⟨fun _ => ?_, fun q => absurd (by omega) q⟩
        exact h τ' f gg a
      · intro τ' f gg ek a
        have w1 : (τ' k).1 30 0 1 = nI (jz s 1) := (f.r hR).w.1.2.1.trans hK
        have w2 : (τ' k).1 42 0 j = v j := by rw [ek]; exact hv j hj
        apply jb_St_runSerially_18_1
        simp (disch := first | omega | decide) only [jaU_eq, jaU_U, nI_add, pk_mul, jaIx_nI, vp_inT, true_and, and_true, ↓jaO0, ↓jaO1, nI_z, nI_z2, nI_z3, nI_z4, nI_z5, nI_lt', nI_le', nI_eq', jaUI_at, jaPt_eq, jaPt_ne, jaUI_o, jaUI_2, jaUL_at, jaUL_o, jaUL_1, jaB_z, jaB_1, ↓jaB_01, Classical.not_not, and_self, true_or, or_true, nI_11, Nat.reduceEqDiff, Nat.reduceAdd, Nat.reduceMul, Nat.add_zero, Nat.zero_add, Nat.mul_zero, not_true_eq_false, not_false_eq_true, false_implies, true_implies, w1, w2]
        refine ⟨fun q => absurd q (by omega), fun _ => ?_⟩
        refine ih _ (f.u hk (by decide) (by decide)) (fun o h1 h2 h3 => ?_) (by rw [jaU_ne hk]; exact ek) (fun q hq => ?_)
        · rw [jaU_eq, jaUI_o (fun z => h3 (by rw [z]; exact List.mem_cons_self))]
          exact gg o h1 h2 h3
        · rw [jaU_eq]
          by_cases z : q = j
          · rw [z]
            simp (disch := first | omega | decide) only [jaU_eq, jaU_U, nI_add, pk_mul, jaIx_nI, vp_inT, true_and, and_true, ↓jaO0, ↓jaO1, nI_z, nI_z2, nI_z3, nI_z4, nI_z5, nI_lt', nI_le', nI_eq', jaUI_at, jaPt_eq, jaPt_ne, jaUI_o, jaUI_2, jaUL_at, jaUL_o, jaUL_1, jaB_z, jaB_1, ↓jaB_01, Classical.not_not, and_self, true_or, or_true, nI_11, Nat.reduceEqDiff, Nat.reduceAdd, Nat.reduceMul, Nat.add_zero, Nat.zero_add, Nat.mul_zero, not_true_eq_false, not_false_eq_true, false_implies, true_implies]
          · rw [jaUI_at, jaPt_ne z]
            exact a q (by omega)
  rw [jaU_self] at is
  exact is
/-! what a Search finds -/
noncomputable def jfL (so : Nat → Prop) : Nat → List Nat
  | 0 => []
  | n + 1 => jaIf1 (so n) (jfL so n ++ [n]) (jfL so n)
theorem jfL_l {so : Nat → Prop} : ∀ n, (jfL so n).length ≤ n
  | 0 => Nat.le_refl _
  | n + 1 => by
    have := jfL_l (so := so) n
    rw [jfL]
    by_cases q : so n
    · rw [jaIf1_t q, List.length_append]
      simp only [List.length_cons, List.length_nil]
      omega
    · rw [jaIf1_f q]
      omega
theorem jfL_c {so so' : Nat → Prop} : ∀ n, (∀ i, i < n → (so i ↔ so' i)) → jfL so n = jfL so' n
  | 0, _ => rfl
  | n + 1, h => by rw [jfL, jfL, jfL_c n (fun i hi => h i (by omega)), propext (h n (by omega))]
/-- the pairs hold of a row -/
def jfSo (r : jvA) (c : Nat → Nat) (n : Nat) : Prop := ∀ p, 2 * p + 1 < n → r (c (2 * p)) = nI (c (2 * p + 1))
def jfTo (c : Nat → Nat) (n K : Nat) : Prop := 2 ≤ n ∧ n ≤ 12 ∧ n % 2 = 0 ∧ ∀ p, 2 * p < n → c (2 * p) < K
noncomputable def jfCn (V : Nat → jvA) (m k i : Nat) : Nat := jaCnt (fun j => V j k = V i k) m
noncomputable def jfMx (V : Nat → jvA) (m k : Nat) : Nat → Nat := jaRec (fun i y => max y (jfCn V m k i)) 0
noncomputable def jfAk (f : Nat → Nat) : Nat → Nat := jaRec (fun k y => jaIf1 (0 < k ∧ f k < f y) k y) 0
theorem jfMx_l {V : Nat → jvA} {m k : Nat} : ∀ n, jfMx V m k n ≤ m
  | 0 => Nat.zero_le _
  | n + 1 => by
    have h1 := jfMx_l (V := V) (m := m) (k := k) n
    have h2 := jaCnt_le (p := fun j => V j k = V n k) m
    show max (jfMx V m k n) (jfCn V m k n) ≤ m
    unfold jfCn
    omega
theorem jfAk_l {f : Nat → Nat} : ∀ n, 1 ≤ n → jfAk f n < n
  | 0, h => absurd h (by omega)
  | 1, _ => by
    show jaIf1 (0 < 0 ∧ f 0 < f 0) 0 0 < 1
    rw [jaIf1_f (by omega)]
    decide
  | n + 2, _ => by
    have := jfAk_l (f := f) (n + 1) (by omega)
    show jaIf1 (0 < n + 1 ∧ f (n + 1) < f (jfAk f (n + 1))) (n + 1) (jfAk f (n + 1)) < n + 2
    by_cases q : 0 < n + 1 ∧ f (n + 1) < f (jfAk f (n + 1))
    · rw [jaIf1_t q]; omega
    · rw [jaIf1_f q]; omega
end
