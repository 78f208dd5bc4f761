section
/-! the class: ENTRIES of a TRANS -/
def jvEo (e : jvA) (x : Int32) (id : Nat) : Prop := e (9 * id) = x
theorem sp_En_countOf {D : Nat} (hD : 1 ≤ D) {kk : Int32 → jaT → Prop} {σ : jaT} {S : jaS} {s d e : jvA} {k : Nat} {x : Int32} (hR : jR S (s, d, e)) (hW : jW s d e) (h : kk (nI (jaCnt (jvEo e x) (jz s 33))) (jaU σ k S)) : jaDe D jy_En_countOf [jcEn k, .inl x] (jaU σ k S) (jaKi kk) := by
  obtain ⟨D, rfl, hD⟩ := jaSuc hD
  have hP := hW.o.pool
  have o60 : S.1 60 0 0 = nI (jz s 33) := hR.o.1.trans hP.1
  apply js_En_countOf
  refine jaFor (C := fun i => jc_En_countOf_1 D kk k x (nI (jaCnt (jvEo e x) i)) (nI i) (jaU σ k S)) (N := jz s 33) ?_ (fun i hi ih => ?_)
  · apply jb_En_countOf_1
    simp (disch := first | omega | decide) only [jaU_eq, jaU_U, nI_add, pk_mul, jaIx_nI, vp_inT, true_and, and_true, ↓jaO0, ↓jaO1, nI_z, nI_z2, nI_z3, nI_z4, nI_z5, nI_lt', nI_le', nI_eq', jaUI_at, jaPt_eq, jaPt_ne, jaUI_o, jaUI_2, jaUL_at, jaUL_o, jaUL_1, jaB_z, jaB_1, ↓jaB_01, Classical.not_not, and_self, true_or, or_true, nI_11, Nat.reduceEqDiff, Nat.reduceAdd, Nat.reduceMul, Nat.add_zero, Nat.zero_add, Nat.mul_zero, not_true_eq_false, not_false_eq_true, false_implies, true_implies, o60]
    refine ⟨fun _ => ?_, fun q => absurd (by omega) q⟩
    exact h
  · have o61 : S.1 61 0 i = e (9 * i) := (hR.e i hi).1
    apply jb_En_countOf_1
    simp (disch := first | omega | decide) only [jaU_eq, jaU_U, nI_add, pk_mul, jaIx_nI, vp_inT, true_and, and_true, ↓jaO0, ↓jaO1, nI_z, nI_z2, nI_z3, nI_z4, nI_z5, nI_lt', nI_le', nI_eq', jaUI_at, jaPt_eq, jaPt_ne, jaUI_o, jaUI_2, jaUL_at, jaUL_o, jaUL_1, jaB_z, jaB_1, ↓jaB_01, Classical.not_not, and_self, true_or, or_true, nI_11, Nat.reduceEqDiff, Nat.reduceAdd, Nat.reduceMul, Nat.add_zero, Nat.zero_add, Nat.mul_zero, not_true_eq_false, not_false_eq_true, false_implies, true_implies, o60, o61]
    refine ⟨fun q => absurd q (by omega), fun _ => ?_⟩
    refine ⟨fun q => ?_, fun q => ?_⟩
    · rwa [jaCnt_f q] at ih
    · rwa [jaCnt_t q] at ih
/-- the last PLACE of one -/
noncomputable def jvLp (s e : jvA) (x : Int32) : Nat → Int32 := jaRec (fun i r => jaIf1 (e (9 * jvId s i) = x) (nI i) r) (-1)
theorem jvLp_s {s e : jvA} {x : Int32} {i : Nat} : jvLp s e x (i + 1) = jaIf1 (e (9 * jvId s i) = x) (nI i) (jvLp s e x i) := rfl
theorem jaAm1 (x : Int32) : x + (-1) = x - nI 1 := by
  show x + (-1) = x - (1 : Int32)
  grind
theorem sp_En_lastPlaceOf {D : Nat} (hD : 1 ≤ D) {kk : Int32 → jaT → Prop} {σ : jaT} {S : jaS} {s d e : jvA} {k : Nat} {x : Int32} (hR : jR S (s, d, e)) (hW : jW s d e) (h : kk (jvLp s e x (jz s 34)) (jaU σ k S)) : jaDe D jy_En_lastPlaceOf [jcEn k, .inl x] (jaU σ k S) (jaKi kk) := by
  obtain ⟨D, rfl, hD⟩ := jaSuc hD
  have hO := hW.o.ord
  have hP := hW.o.pool
  have o60 : S.1 60 0 1 = nI (jz s 34) := hR.o.2.1.trans hO.1
  apply js_En_lastPlaceOf
  simp (disch := first | omega | decide) only [jaU_eq, jaU_U, nI_add, pk_mul, jaIx_nI, vp_inT, true_and, and_true, ↓jaO0, ↓jaO1, nI_z, nI_z2, nI_z3, nI_z4, nI_z5, nI_lt', nI_le', nI_eq', jaUI_at, jaPt_eq, jaPt_ne, jaUI_o, jaUI_2, jaUL_at, jaUL_o, jaUL_1, jaB_z, jaB_1, ↓jaB_01, Classical.not_not, and_self, true_or, or_true, nI_11, Nat.reduceEqDiff, Nat.reduceAdd, Nat.reduceMul, Nat.add_zero, Nat.zero_add, Nat.mul_zero, not_true_eq_false, not_false_eq_true, false_implies, true_implies, o60]
  have L : ∀ i, i ≤ jz s 34 → kk (jvLp s e x i) (jaU σ k S) → jc_En_lastPlaceOf_1 D kk k x (nI i - nI 1) (jaU σ k S) := by
    intro i
    induction i with
    | zero =>
      intro _ hk
      apply jb_En_lastPlaceOf_1
      refine ⟨fun _ => hk, fun q => absurd (by decide) q⟩
    | succ i ih =>
      intro hi hk
      obtain ⟨a1, a2⟩ := hW.o.id (show i < jz s 34 by omega)
      have o1 : S.1 68 0 i = nI (jz s (41 + i)) := ((hR.o.2.2.1 i (show i < jz s 34 by omega)).1).trans a1
      have i1 : S.1 61 0 (jz s (41 + i)) = e (9 * jz s (41 + i)) := (hR.e _ a2).1
      have hII : jvId s i = jz s (41 + i) := rfl
      rw [jvLp_s, hII] at hk
      rw [nI_sub (by omega), Nat.add_sub_cancel]
      apply jb_En_lastPlaceOf_1
      simp (disch := first | omega | decide) only [jaU_eq, jaU_U, nI_add, pk_mul, jaIx_nI, vp_inT, true_and, and_true, ↓jaO0, ↓jaO1, nI_z, nI_z2, nI_z3, nI_z4, nI_z5, nI_lt', nI_le', nI_eq', jaUI_at, jaPt_eq, jaPt_ne, jaUI_o, jaUI_2, jaUL_at, jaUL_o, jaUL_1, jaB_z, jaB_1, ↓jaB_01, Classical.not_not, and_self, true_or, or_true, nI_11, Nat.reduceEqDiff, Nat.reduceAdd, Nat.reduceMul, Nat.add_zero, Nat.zero_add, Nat.mul_zero, not_true_eq_false, not_false_eq_true, false_implies, true_implies, o1, i1]
      rw [jaAm1]
      refine ⟨fun q => ?_, fun q => ?_⟩
      · rw [jaIf1_f q] at hk
        exact ih (by omega) hk
      · rwa [jaIf1_t q] at hk
  exact L _ (Nat.le_refl _) h
/-! the class: one behind the other -/
theorem sp_St_beginSerially_43 {D : Nat} (hD : 1 ≤ D) {kk : jaT → Prop} {σ : jaT} {S : jaS} {s d e : jvA} {k : Nat} (hR : jR S (s, d, e)) (hW : jW s d e) (h : ∀ S', jcF [42, 43] S S' → (∀ q, q < jz s 1 → S'.1 43 0 q = s (15 + q)) → kk (jaU σ k S')) : jaDe D jy_St_beginSerially [jcSt k, .inr (.inr (43, k, 0))] (jaU σ k S) (jaKv kk) := by
  obtain ⟨D, rfl, hD⟩ := jaSuc hD
  obtain ⟨hK, hK'⟩ := hW.w.2.1
  apply js_St_beginSerially_43
  refine jaFor (C := fun i => ∀ S', jcF [42, 43] S S' → (∀ q, q < i → S'.1 43 0 q = s (15 + q)) → jc_St_beginSerially_43_1 D kk k k (nI i) (jaU σ k S')) (N := jz s 1) ?_ (fun i hi ih => ?_) S jcF.rfl (fun _ q => absurd q (by omega))
  · intro S' f a
    have w1 : S'.1 30 0 1 = nI (jz s 1) := by rw [f.s 30 (by decide)]; exact hR.w.1.2.1.trans hK
    apply jb_St_beginSerially_43_1
    simp (disch := first | omega | decide) only [jaU_eq, jaU_U, nI_add, pk_mul, jaIx_nI, vp_inT, true_and, and_true, ↓jaO0, ↓jaO1, nI_z, nI_z2, nI_z3, nI_z4, nI_z5, nI_lt', nI_le', nI_eq', jaUI_at, jaPt_eq, jaPt_ne, jaUI_o, jaUI_2, jaUL_at, jaUL_o, jaUL_1, jaB_z, jaB_1, ↓jaB_01, Classical.not_not, and_self, true_or, or_true, nI_11, Nat.reduceEqDiff, Nat.reduceAdd, Nat.reduceMul, Nat.add_zero, Nat.zero_add, Nat.mul_zero, not_true_eq_false, not_false_eq_true, false_implies, true_implies, w1]
    refine ⟨fun _ => ?_, fun q => absurd (by omega) q⟩
    exact h S' f a
  · intro S' f a
    have w1 : S'.1 30 0 1 = nI (jz s 1) := by rw [f.s 30 (by decide)]; exact hR.w.1.2.1.trans hK
    have w2 : S'.1 32 0 i = s (15 + i) := by rw [f.s 32 (by decide)]; exact (hR.w.2.1 i hi).2
    apply jb_St_beginSerially_43_1
    simp (disch := first | omega | decide) only [jaU_eq, jaU_U, nI_add, pk_mul, jaIx_nI, vp_inT, true_and, and_true, ↓jaO0, ↓jaO1, nI_z, nI_z2, nI_z3, nI_z4, nI_z5, nI_lt', nI_le', nI_eq', jaUI_at, jaPt_eq, jaPt_ne, jaUI_o, jaUI_2, jaUL_at, jaUL_o, jaUL_1, jaB_z, jaB_1, ↓jaB_01, Classical.not_not, and_self, true_or, or_true, nI_11, Nat.reduceEqDiff, Nat.reduceAdd, Nat.reduceMul, Nat.add_zero, Nat.zero_add, Nat.mul_zero, not_true_eq_false, not_false_eq_true, false_implies, true_implies, w1, w2]
    refine ⟨fun q => absurd q (by omega), fun _ => ?_⟩
    exact ih _ (f.ui (by decide)) (fun q hq => by
      by_cases z : q = i
      · rw [z]
        simp (disch := first | omega | decide) only [jaU_eq, jaU_U, nI_add, pk_mul, jaIx_nI, vp_inT, true_and, and_true, ↓jaO0, ↓jaO1, nI_z, nI_z2, nI_z3, nI_z4, nI_z5, nI_lt', nI_le', nI_eq', jaUI_at, jaPt_eq, jaPt_ne, jaUI_o, jaUI_2, jaUL_at, jaUL_o, jaUL_1, jaB_z, jaB_1, ↓jaB_01, Classical.not_not, and_self, true_or, or_true, nI_11, Nat.reduceEqDiff, Nat.reduceAdd, Nat.reduceMul, Nat.add_zero, Nat.zero_add, Nat.mul_zero, not_true_eq_false, not_false_eq_true, false_implies, true_implies]
      · rw [jaUI_at, jaPt_ne z]
        exact a q (by omega))
set_option maxHeartbeats 1000000 in
theorem sp_St_runSerially_43 {D : Nat} (hD : 4 ≤ D) {kk : jaT → Prop} {σ : jaT} {S : jaS} {s d e r : jvA} {k i : Nat} (hR : jR S (s, d, e)) (hW : jW s d e) (hi : i < jz s 34) (hr : ∀ q, q < jz s 1 → S.1 43 0 q = r q) (h : ∀ S', jcF [42, 43] S S' → (∀ q, q < jz s 1 → S'.1 43 0 q = jvSr1 s d e i r q) → kk (jaU σ k S')) : jaDe D jy_St_runSerially [jcSt k, .inl (nI i), .inr (.inr (43, k, 0))] (jaU σ k S) (jaKv kk) := by
  obtain ⟨D, rfl, hD⟩ := jaSuc hD
  have hO := hW.o.ord.2
  have hP := hW.o.pool.2
  have hM := hW.o.many.2
  obtain ⟨hid, hid'⟩ := hW.o.id hi
  have hrow := hW.e _ hid'
  obtain ⟨⟨hn, hn'⟩, hsite, hfl, hws, hwide⟩ := hW.e _ hid'
  have hwn := hW.d _ hn'
  obtain ⟨o1, o2, o3⟩ := hR.o.2.2.1 i hi
  obtain ⟨i1, i2, i3, i4, i5⟩ := hR.e _ hid'
  have hRt := hR.s.2 _ hn'
  obtain ⟨hK, hK'⟩ := hW.w.2.1
  have o1 : S.1 68 0 i = nI (jz s (41 + i)) := o1.trans hid
  have i1 : S.1 61 0 (jz s (41 + i)) = nI (jz e (9 * jz s (41 + i))) := i1.trans hn
  have w1 : S.1 30 0 1 = nI (jz s 1) := hR.w.1.2.1.trans hK
  have hII2 : jvId s i = jz s (41 + i) := rfl
  unfold jvSr1 at h
  rw [hK, hII2] at h
  apply js_St_runSerially_43
  simp (disch := first | omega | decide) only [jaU_eq, jaU_U, nI_add, pk_mul, jaIx_nI, vp_inT, true_and, and_true, ↓jaO0, ↓jaO1, nI_z, nI_z2, nI_z3, nI_z4, nI_z5, nI_lt', nI_le', nI_eq', jaUI_at, jaPt_eq, jaPt_ne, jaUI_o, jaUI_2, jaUL_at, jaUL_o, jaUL_1, jaB_z, jaB_1, ↓jaB_01, Classical.not_not, and_self, true_or, or_true, nI_11, Nat.reduceEqDiff, Nat.reduceAdd, Nat.reduceMul, Nat.add_zero, Nat.zero_add, Nat.mul_zero, not_true_eq_false, not_false_eq_true, false_implies, true_implies, o1, i1, w1]
  rw [show jz s (41 + i) * 4 = 4 * jz s (41 + i) by omega]
  refine sp_Sc_run_43 (R := r) (e := e) (d := d) (by omega) hRt (by omega) hwn hK' (by omega) hn i5 hfl hr ?_
  intro S1 f1 hg1
  have f1' : jcF [42, 43] S S1 := f1.mono (by decide)
  generalize hG : jvGo r d e (nI (jz s 1)) (jz s (41 + i)) = g at *
  obtain ⟨how, v, w⟩ := g
  refine ⟨fun q => ?_, fun q => ?_⟩
  · rw [jaIf1_f q] at h
    exact h S1 f1' (fun q hq => by rw [f1.s 43 (by decide)]; exact hr q hq)
  · have hv := hg1 v w (by have q : how = nI 2 := q; rw [q])
    rw [jaIf1_t q] at h
    refine jaFor (C := fun j => ∀ S', jcF [43] S1 S' → (∀ q, q < j → S'.1 43 0 q = v q) → jc_St_runSerially_43_1 D kk k (nI i) k (nI (jz s (41 + i))) how (nI j) (jaU σ k S')) (N := jz s 1) ?_ (fun j hj ih => ?_) S1 jcF.rfl (fun _ q => absurd q (by omega))
    · intro S' f a
      have w1 : S'.1 30 0 1 = nI (jz s 1) := by rw [f.s 30 (by decide), f1.s 30 (by decide)]; exact w1
      apply jb_St_runSerially_43_1
      simp (disch := first | omega | decide) only [jaU_eq, jaU_U, nI_add, pk_mul, jaIx_nI, vp_inT, true_and, and_true, ↓jaO0, ↓jaO1, nI_z, nI_z2, nI_z3, nI_z4, nI_z5, nI_lt', nI_le', nI_eq', jaUI_at, jaPt_eq, jaPt_ne, jaUI_o, jaUI_2, jaUL_at, jaUL_o, jaUL_1, jaB_z, jaB_1, ↓jaB_01, Classical.not_not, and_self, true_or, or_true, nI_11, Nat.reduceEqDiff, Nat.reduceAdd, Nat.reduceMul, Nat.add_zero, Nat.zero_add, Nat.mul_zero, not_true_eq_false, not_false_eq_true, false_implies, true_implies, w1]
      refine ⟨fun _ => ?_, fun q => absurd (by omega) q⟩
      exact h S' (f1'.trans (f.mono (by decide))) a
    · intro S' f a
      have w1 : S'.1 30 0 1 = nI (jz s 1) := by rw [f.s 30 (by decide), f1.s 30 (by decide)]; exact w1
      have w2 : S'.1 42 0 j = v j := by rw [f.s 42 (by decide)]; exact hv j hj
      apply jb_St_runSerially_43_1
      simp (disch := first | omega | decide) only [jaU_eq, jaU_U, nI_add, pk_mul, jaIx_nI, vp_inT, true_and, and_true, ↓jaO0, ↓jaO1, nI_z, nI_z2, nI_z3, nI_z4, nI_z5, nI_lt', nI_le', nI_eq', jaUI_at, jaPt_eq, jaPt_ne, jaUI_o, jaUI_2, jaUL_at, jaUL_o, jaUL_1, jaB_z, jaB_1, ↓jaB_01, Classical.not_not, and_self, true_or, or_true, nI_11, Nat.reduceEqDiff, Nat.reduceAdd, Nat.reduceMul, Nat.add_zero, Nat.zero_add, Nat.mul_zero, not_true_eq_false, not_false_eq_true, false_implies, true_implies, w1, w2]
      refine ⟨fun q => absurd q (by omega), fun _ => ?_⟩
      exact ih _ (f.ui (by decide)) (fun q hq => by
        by_cases z : q = j
        · rw [z]
          simp (disch := first | omega | decide) only [jaU_eq, jaU_U, nI_add, pk_mul, jaIx_nI, vp_inT, true_and, and_true, ↓jaO0, ↓jaO1, nI_z, nI_z2, nI_z3, nI_z4, nI_z5, nI_lt', nI_le', nI_eq', jaUI_at, jaPt_eq, jaPt_ne, jaUI_o, jaUI_2, jaUL_at, jaUL_o, jaUL_1, jaB_z, jaB_1, ↓jaB_01, Classical.not_not, and_self, true_or, or_true, nI_11, Nat.reduceEqDiff, Nat.reduceAdd, Nat.reduceMul, Nat.add_zero, Nat.zero_add, Nat.mul_zero, not_true_eq_false, not_false_eq_true, false_implies, true_implies]
        · rw [jaUI_at, jaPt_ne z]
          exact a q (by omega))
theorem jvSr1_c {s d e r r' : jvA} {i : Nat} (hW : jW s d e) (hi : i < jz s 34) (hr : ∀ q, q < jz s 1 → r q = r' q) : ∀ q, q < jz s 1 → jvSr1 s d e i r q = jvSr1 s d e i r' q := by
  obtain ⟨hid, hid'⟩ := hW.o.id hi
  obtain ⟨hn, hn'⟩ := (hW.e _ hid').1
  obtain ⟨a, b, c, f⟩ := jvGo_c (k := s 1) (hW.e _ hid') (hW.d _ hn') hW.w.2.1.2 hr
  intro q hq
  unfold jvSr1 jvId
  rw [a]
  by_cases z : (jvGo r' d e (s 1) (jz s (41 + i))).1 = nI 2
  · rw [jaIf1_t z, jaIf1_t z]
    exact c q hq
  · rw [jaIf1_f z, jaIf1_f z]
    exact hr q hq
theorem jvSr_c {s d e r r' : jvA} (hW : jW s d e) (hr : ∀ q, q < jz s 1 → r q = r' q) : ∀ n, n ≤ jz s 34 → ∀ q, q < jz s 1 → jvSr s d e r n q = jvSr s d e r' n q
  | 0, _ => hr
  | n + 1, hn => jvSr1_c hW (by omega) (jvSr_c hW hr n (by omega))
theorem sp_St_valueSerially {D : Nat} (hD : 5 ≤ D) {kk : Int32 → jaT → Prop} {σ : jaT} {S : jaS} {s d e r : jvA} {k q : Nat} (hR : jR S (s, d, e)) (hW : jW s d e) (hq : q < jz s 1) (hr : ∀ q, q < jz s 1 → r q = s (15 + q)) (h : ∀ S', jcF [42, 43] S S' → kk (jvSr s d e r (jz s 34) q) (jaU σ k S')) : jaDe D jy_St_valueSerially [jcSt k, .inl (nI q)] (jaU σ k S) (jaKi kk) := by
  obtain ⟨D, rfl, hD⟩ := jaSuc hD
  have hO := hW.o.ord
  have h10 := hW.w.2.1.2
  have o60 : S.1 60 0 1 = nI (jz s 34) := hR.o.2.1.trans hO.1
  apply js_St_valueSerially
  refine sp_St_beginSerially_43 (by omega) hR hW (fun S1 f1 a1 => ?_)
  refine jaFor (C := fun i => ∀ S', jcF [42, 43] S S' → (∀ q, q < jz s 1 → S'.1 43 0 q = jvSr s d e r i q) → jc_St_valueSerially_1 D kk k (nI q) (nI i) (jaU σ k S')) (N := jz s 34) ?_ (fun i hi ih => ?_) S1 f1 (fun q hq => (a1 q hq).trans (hr q hq).symm)
  · intro S' f a
    apply jb_St_valueSerially_1
    simp (disch := first | omega | decide) only [jaU_eq, jaU_U, nI_add, pk_mul, jaIx_nI, vp_inT, true_and, and_true, ↓jaO0, ↓jaO1, nI_z, nI_z2, nI_z3, nI_z4, nI_z5, nI_lt', nI_le', nI_eq', jaUI_at, jaPt_eq, jaPt_ne, jaUI_o, jaUI_2, jaUL_at, jaUL_o, jaUL_1, jaB_z, jaB_1, ↓jaB_01, Classical.not_not, and_self, true_or, or_true, nI_11, Nat.reduceEqDiff, Nat.reduceAdd, Nat.reduceMul, Nat.add_zero, Nat.zero_add, Nat.mul_zero, not_true_eq_false, not_false_eq_true, false_implies, true_implies, f.s 60 (by decide), o60, a q hq]
    refine ⟨fun _ => ?_, fun q => absurd (by omega) q⟩
    exact h S' f
  · intro S' f a
    apply jb_St_valueSerially_1
    simp (disch := first | omega | decide) only [jaU_eq, jaU_U, nI_add, pk_mul, jaIx_nI, vp_inT, true_and, and_true, ↓jaO0, ↓jaO1, nI_z, nI_z2, nI_z3, nI_z4, nI_z5, nI_lt', nI_le', nI_eq', jaUI_at, jaPt_eq, jaPt_ne, jaUI_o, jaUI_2, jaUL_at, jaUL_o, jaUL_1, jaB_z, jaB_1, ↓jaB_01, Classical.not_not, and_self, true_or, or_true, nI_11, Nat.reduceEqDiff, Nat.reduceAdd, Nat.reduceMul, Nat.add_zero, Nat.zero_add, Nat.mul_zero, not_true_eq_false, not_false_eq_true, false_implies, true_implies, f.s 60 (by decide), o60]
    refine ⟨fun q => absurd q (by omega), fun _ => ?_⟩
    have hR' : jR S' (s, d, e) := jR_S (fun o a b c => f.s o (by simp [a, b])) hR
    refine sp_St_runSerially_43 (by omega) hR' hW hi a (fun S2 f2 a2 => ?_)
    exact ih S2 (f.trans f2) a2
end
