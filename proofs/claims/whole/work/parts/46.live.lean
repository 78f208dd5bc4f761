section
/-! a LINE of a BOOK lives -/
noncomputable def jvLv (t a b : Nat) (x : jvX) : Int32 × jvX :=
  jaIf1 (t = 0) (jaIf1 (b < jz x.1 32) (jaIf1 (jz x.1 32 = 24) (nI 1, x) (nI 0, jvPuts x.1 x.2.1 x.2.2 (nI a) b)) (nI 9, x))
    (jaIf1 (t = 1) (jaIf1 (x.1 36 = nI 1) (nI 11, x) (nI 0, jvCh x.1, x.2))
      (jaIf1 (t = 2) (jaIf1 (jz x.1 34 = 0) (nI 21, x) (nI 0, jvCr x.1 a, x.2)) (jaIf1 (1000 < jz x.1 31 + a) (nI 31, x) (nI 0, jvTs3 x a))))
/-- what such a LINE may say -/
def jBl (s : jvA) (t a b : Nat) : Prop := t ≤ 3 ∧ (t = 0 → a < jz s 0 ∧ b < 24) ∧ (t = 2 → a < jz s 2) ∧ (t = 3 → 1 ≤ a ∧ a ≤ 60)
theorem jvLv_W {t a b : Nat} {x : jvX} (h : jW3 x) (ht : jz x.1 31 ≤ 1000) (hb : jBl x.1 t a b) : jW3 (jvLv t a b x).2 ∧ jK3 x (jvLv t a b x).2 ∧ jz (jvLv t a b x).2.1 31 ≤ 1000 := by
  obtain ⟨s, d, e⟩ := x
  have h : jW s d e := h
  obtain ⟨b0, b1, b2, b3⟩ := hb
  have h03 := h.w.1.2
  have h2 := h.w.2.2.1
  have h10 := h.w.2.1.2
  have h24 := h.o.many.2
  have stay : jW3 (s, d, e) ∧ jK3 (s, d, e) (s, d, e) ∧ jz s 31 ≤ 1000 := ⟨h, jK3.rfl, ht⟩
  unfold jvLv
  by_cases q0 : t = 0
  · rw [jaIf1_t q0]
    obtain ⟨c1, c2⟩ := b1 q0
    have c1 : a < jz s 0 := c1
    by_cases q1 : b < jz s 32
    · simp only []
      rw [jaIf1_t q1]
      by_cases q2 : jz s 32 = 24
      · rw [jaIf1_t q2]; exact stay
      · rw [jaIf1_f q2]
        have hK := jvPuts_K (x := nI a) (n := b) h (by omega)
        exact ⟨(jvPuts_W h (by omega) q1 (by rw [jaIx_nI (by omega)]) (by rw [jaIx_nI (by omega)]; omega)).1, hK.1, by rw [show (nI 0, jvPuts s d e (nI a) b).2.1 = (jvPuts s d e (nI a) b).1 from rfl, hK.2]; exact ht⟩
    · simp only []
      rw [jaIf1_f q1]; exact stay
  · rw [jaIf1_f q0]
    by_cases q1 : t = 1
    · rw [jaIf1_t q1]
      simp only []
      by_cases q2 : s 36 = nI 1
      · rw [jaIf1_t q2]; exact stay
      · rw [jaIf1_f q2]
        have q3 : s 36 = nI 0 := h.b36.elim (fun z => z) (fun z => absurd z q2)
        have e31 : jz (jvCh s) 31 = jz s 31 := jz_c (jvCh_n h10 (by omega))
        exact ⟨jvCh_W h q3, jK3_s (fun j hj => jvCh_n h10 (by omega)), by rw [e31]; exact ht⟩
    · rw [jaIf1_f q1]
      by_cases q2 : t = 2
      · rw [jaIf1_t q2]
        simp only []
        have c1 : a < jz s 2 := b2 q2
        by_cases q3 : jz s 34 = 0
        · rw [jaIf1_t q3]; exact stay
        · rw [jaIf1_f q3]
          have e31 : jz (jvCr s a) 31 = jz s 31 := jz_c (jvCr_n (by omega) (by omega))
          exact ⟨jvCr_W h (by omega), jK3_s (fun j hj => jvCr_n (by omega) (by omega)), by rw [e31]; exact ht⟩
      · rw [jaIf1_f q2]
        have c1 := b3 (by omega)
        simp only []
        by_cases q3 : 1000 < jz s 31 + a
        · rw [jaIf1_t q3]; exact stay
        · rw [jaIf1_f q3]
          obtain ⟨w1, w2, w3⟩ := jvTs3_W (x := (s, d, e)) h a (by show jz s 31 + a < 3000; omega)
          have w3 : jz (jvTs3 (s, d, e) a).1 31 = jz s 31 + a := w3
          exact ⟨w1, w2, by show jz (jvTs3 (s, d, e) a).1 31 ≤ 1000; omega⟩
theorem sp_M_does {D : Nat} (hD : 9 ≤ D) {kk : Int32 → jaT → Prop} {σ : jaT} {S : jaS} {x : jvX} (hs : S.1 72 0 = x.1) (hd : S.1 75 0 = x.2.1) (he : S.1 76 0 = x.2.2) (hW : jW3 x) {t a b : Nat} {x2 x3 : Int32} (h2' : t ≠ 1 → x2 = nI a) (h3' : t = 0 → x3 = nI b) (ht : jz x.1 31 ≤ 1000) (hb : jBl x.1 t a b)
    (h : ∀ S', S'.1 72 0 = (jvLv t a b x).2.1 → S'.1 75 0 = (jvLv t a b x).2.2.1 → S'.1 76 0 = (jvLv t a b x).2.2.2 → jaFr [72, 75, 76, 80, 82] [29] S S' → kk (jvLv t a b x).1 (jaU σ 20 S')) : jaDe D jy_M_does [jaMo, .inl (nI t), .inl x2, .inl x3] (jaU σ 20 S) (jaKi kk) := by
  obtain ⟨s, d, e⟩ := x
  have hW : jW s d e := hW
  obtain ⟨b0, b1, b2, b3⟩ := hb
  have h03 := hW.w.1.2
  have h2 := hW.w.2.2.1
  have h24 := hW.o.many.2
  simp only [] at hs hd he ht
  unfold jvLv at h
  by_cases q0 : t = 0
  · rw [jaIf1_t q0] at h
    subst q0
    obtain ⟨c1, c2⟩ := b1 rfl
    have c1 : a < jz s 0 := c1
    rw [h2' (by decide), h3' rfl]
    refine sp_M_does_0 (by omega) hs hd he hW (by omega) c2 (fun q1 => ?_) (fun q1 q2 => ?_) (fun q1 q2 S' a1 a2 a3 f => ?_)
    · simp only [] at h
      rw [jaIf1_f q1] at h
      exact h S hs hd he jaFr.rfl
    · simp only [] at h
      rw [jaIf1_t q1, jaIf1_t q2] at h
      exact h S hs hd he jaFr.rfl
    · simp only [] at h
      rw [jaIf1_t q1, jaIf1_f (by omega)] at h
      exact h S' a1 a2 a3 (f.mono (by decide) (by decide))
  · rw [jaIf1_f q0] at h
    by_cases q1 : t = 1
    · rw [jaIf1_t q1] at h
      subst q1
      simp only [] at h
      refine sp_M_does_1 (by omega) hs hW.w hW.b36 (fun q2 => ?_) (fun q2 S' a1 f => ?_)
      · rw [jaIf1_t q2] at h
        exact h S hs hd he jaFr.rfl
      · rw [jaIf1_f (by rw [q2]; decide)] at h
        exact h S' a1 (by rw [f.s 75 (by decide) (by decide)]; exact hd) (by rw [f.s 76 (by decide) (by decide)]; exact he) (f.mono (by decide) (by decide))
    · rw [jaIf1_f q1] at h
      by_cases q2 : t = 2
      · rw [jaIf1_t q2] at h
        subst q2
        have c1 : a < jz s 2 := b2 rfl
        simp only [] at h
        rw [h2' (by decide)]
        refine sp_M_does_2 (by omega) hs hW (by omega) (fun q3 => ?_) (fun q3 S' a1 f => ?_)
        · rw [jaIf1_t q3] at h
          exact h S hs hd he jaFr.rfl
        · rw [jaIf1_f (by omega)] at h
          exact h S' a1 (by rw [f.s 75 (by decide) (by decide)]; exact hd) (by rw [f.s 76 (by decide) (by decide)]; exact he) (f.mono (by decide) (by decide))
      · rw [jaIf1_f q2] at h
        have q3 : t = 3 := by omega
        subst q3
        have c1 := b3 rfl
        simp only [] at h
        rw [h2' (by decide)]
        refine sp_M_does_3 (by omega) hs hd he hW (by omega) ht (fun q3 => ?_) (fun q3 S' a1 a2 f => ?_)
        · rw [jaIf1_t q3] at h
          exact h S hs hd he jaFr.rfl
        · rw [jaIf1_f (by omega), jvTs3_eq] at h
          exact h S' a1 (by rw [f.s 75 (by decide) (by decide)]; exact hd) a2 (f.mono (by decide) (by decide))
theorem sp_St_passTick3 {D : Nat} (hD : 7 ≤ D) {kk : jaT → Prop} {σ : jaT} {S : jaS} {x : jvX} {k : Nat} (hR : jR S x) (hW : jW3 x) (h : ∀ S', jR S' (jvT3 x) → jcE S S' → kk (jaU σ k S')) : jaDe D jy_St_passTick [jcSt k] (jaU σ k S) (jaKv kk) := by
  obtain ⟨s, d, e⟩ := x
  exact sp_St_passTick hD hR hW h
set_option maxHeartbeats 1000000 in
theorem sp_St_live {D : Nat} (hD : 8 ≤ D) {kk : Int32 → jaT → Prop} {σ : jaT} {S : jaS} {x : jvX} {k : Nat} (hR : jR S x) (hW : jW3 x) {t a b : Nat} (ht : jz x.1 31 ≤ 1000) (hb : jBl x.1 t a b)
    (h : ∀ S', jR S' (jvLv t a b x).2 → jcE S S' → kk (jvLv t a b x).1 (jaU σ k S')) : jaDe D jy_St_live [jcSt k, .inl (nI (109 + t)), .inl (nI a), .inl (nI b)] (jaU σ k S) (jaKi kk) := by
  obtain ⟨s, d, e⟩ := x
  have hW : jW s d e := hW
  obtain ⟨b0, b1, b2, b3⟩ := hb
  have h03 := hW.w.1.2
  have h2 := hW.w.2.2.1
  have h24 := hW.o.many
  have hO := hW.o.ord
  simp only [] at ht
  unfold jvLv at h
  obtain ⟨D, rfl, hD⟩ := jaSuc hD
  obtain ⟨D2, rfl, hD2⟩ := jaSuc (show 1 ≤ D by omega)
  have o54 : S.1 54 0 0 = nI (jz s 32) := hR.s.1.trans h24.1
  have o60 : S.1 60 0 1 = nI (jz s 34) := hR.o.2.1.trans hO.1
  apply js_St_live
  by_cases q0 : t = 0
  · rw [jaIf1_t q0] at h
    subst q0
    obtain ⟨c1, c2⟩ := b1 rfl
    have c1 : a < jz s 0 := c1
    refine ⟨fun q => absurd q (by decide), fun _ => ?_, fun q => absurd q (by decide), fun q => absurd q (by decide), trivial⟩
    simp only [] at h
    apply js_St_whyNotPut
    simp (disch := first | omega | decide) only [jaU_eq, jaU_U, nI_add, pk_mul, jaIx_nI, vp_inT, true_and, and_true, ↓jaO0, ↓jaO1, nI_z, nI_z2, nI_z3, nI_z4, nI_z5, nI_lt', nI_le', nI_eq', jaUI_at, jaPt_eq, jaPt_ne, jaUI_o, jaUI_2, jaUL_at, jaUL_o, jaUL_1, jaB_z, jaB_1, ↓jaB_01, Classical.not_not, and_self, true_or, or_true, nI_11, Nat.reduceEqDiff, Nat.reduceAdd, Nat.reduceMul, Nat.add_zero, Nat.zero_add, Nat.mul_zero, not_true_eq_false, not_false_eq_true, false_implies, true_implies, o54]
    refine ⟨fun q1 => ?_, fun q1 => ?_⟩
    · rw [jaIf1_t q1] at h
      refine sp_Sc_isFull (by omega) o54 (by omega) ?_
      simp (disch := first | omega | decide) only [jaU_eq, jaU_U, nI_add, pk_mul, jaIx_nI, vp_inT, true_and, and_true, ↓jaO0, ↓jaO1, nI_z, nI_z2, nI_z3, nI_z4, nI_z5, nI_lt', nI_le', nI_eq', jaUI_at, jaPt_eq, jaPt_ne, jaUI_o, jaUI_2, jaUL_at, jaUL_o, jaUL_1, jaB_z, jaB_1, ↓jaB_01, Classical.not_not, and_self, true_or, or_true, nI_11, Nat.reduceEqDiff, Nat.reduceAdd, Nat.reduceMul, Nat.add_zero, Nat.zero_add, Nat.mul_zero, not_true_eq_false, not_false_eq_true, false_implies, true_implies]
      refine ⟨fun q2 => ?_, fun q2 => ?_⟩
      · rw [jaIf1_f (by omega)] at h
        refine sp_St_putTrans (by omega) hR hW (by omega) q1 (fun q3 => absurd q3 (by omega)) (fun _ S' a1 f => ?_)
        exact h S' a1 f
      · rw [jaIf1_t (by omega)] at h
        exact h S hR rfl
    · rw [jaIf1_f q1] at h
      exact h S hR rfl
  · rw [jaIf1_f q0] at h
    by_cases q1 : t = 1
    · rw [jaIf1_t q1] at h
      subst q1
      refine ⟨fun q => absurd q (by decide), fun q => absurd q (by decide), fun _ => ?_, fun q => absurd q (by decide), trivial⟩
      simp only [] at h
      have e0 : S.1 44 0 0 = s 36 := hR.k.1
      apply js_St_whyNotCheck
      simp only [jaU_eq]
      rw [e0]
      refine ⟨fun q2 => ?_, fun q2 => ?_⟩
      · rw [jaIf1_f (by rw [q2]; decide)] at h
        refine ⟨fun _ => ?_, fun q => absurd rfl q⟩
        exact sp_St_beginCheck (by omega) hR hW (q2.trans nI_0.symm) (fun S' a1 f => h S' a1 f)
      · rw [jaIf1_t (show s 36 = nI 1 from hW.b36.resolve_left q2)] at h
        refine ⟨fun q => absurd q (by decide), fun _ => h S hR rfl⟩
    · rw [jaIf1_f q1] at h
      by_cases q2 : t = 2
      · rw [jaIf1_t q2] at h
        subst q2
        have c1 : a < jz s 2 := b2 rfl
        refine ⟨fun q => absurd q (by decide), fun q => absurd q (by decide), fun q => absurd q (by decide), fun _ => ?_, trivial⟩
        simp only [] at h
        apply js_St_whyNotCrash
        simp (disch := first | omega | decide) only [jaU_eq, jaU_U, nI_add, pk_mul, jaIx_nI, vp_inT, true_and, and_true, ↓jaO0, ↓jaO1, nI_z, nI_z2, nI_z3, nI_z4, nI_z5, nI_lt', nI_le', nI_eq', jaUI_at, jaPt_eq, jaPt_ne, jaUI_o, jaUI_2, jaUL_at, jaUL_o, jaUL_1, jaB_z, jaB_1, ↓jaB_01, Classical.not_not, and_self, true_or, or_true, nI_11, Nat.reduceEqDiff, Nat.reduceAdd, Nat.reduceMul, Nat.add_zero, Nat.zero_add, Nat.mul_zero, not_true_eq_false, not_false_eq_true, false_implies, true_implies, o60]
        refine ⟨fun q3 => ?_, fun q3 => ?_⟩
        · rw [jaIf1_f q3] at h
          exact sp_St_crashCopy (by omega) hR hW c1 (fun S' a1 f => h S' a1 f)
        · rw [jaIf1_t q3] at h
          exact h S hR rfl
      · rw [jaIf1_f q2] at h
        have q3 : t = 3 := by omega
        subst q3
        have c1 := b3 rfl
        refine ⟨fun _ => ?_, fun q => absurd q (by decide), fun q => absurd q (by decide), fun q => absurd q (by decide), trivial⟩
        simp only [] at h
        refine sp_St_ticksLeft (by omega) (hR.t.trans hW.t) ht ?_
        simp (disch := first | omega | decide) only [jaU_eq, jaU_U, nI_add, pk_mul, jaIx_nI, vp_inT, true_and, and_true, ↓jaO0, ↓jaO1, nI_z, nI_z2, nI_z3, nI_z4, nI_z5, nI_lt', nI_le', nI_eq', jaUI_at, jaPt_eq, jaPt_ne, jaUI_o, jaUI_2, jaUL_at, jaUL_o, jaUL_1, jaB_z, jaB_1, ↓jaB_01, Classical.not_not, and_self, true_or, or_true, nI_11, Nat.reduceEqDiff, Nat.reduceAdd, Nat.reduceMul, Nat.add_zero, Nat.zero_add, Nat.mul_zero, not_true_eq_false, not_false_eq_true, false_implies, true_implies]
        refine ⟨fun q3 => ?_, fun q3 => ?_⟩
        · rw [jaIf1_f (by omega)] at h
          refine jaFor (C := fun i => ∀ S', jR S' (jvTs3 (s, d, e) i) → jcE S S' → jc_St_live_9 (D2 + 1) kk k (nI 112) (nI a) (nI b) (nI i) (jaU σ k S')) (N := a) ?_ (fun i hi ih => ?_) S hR rfl
          · intro S' a1 f
            apply jb_St_live_9
            simp (disch := first | omega | decide) only [jaU_eq, jaU_U, nI_add, pk_mul, jaIx_nI, vp_inT, true_and, and_true, ↓jaO0, ↓jaO1, nI_z, nI_z2, nI_z3, nI_z4, nI_z5, nI_lt', nI_le', nI_eq', jaUI_at, jaPt_eq, jaPt_ne, jaUI_o, jaUI_2, jaUL_at, jaUL_o, jaUL_1, jaB_z, jaB_1, ↓jaB_01, Classical.not_not, and_self, true_or, or_true, nI_11, Nat.reduceEqDiff, Nat.reduceAdd, Nat.reduceMul, Nat.add_zero, Nat.zero_add, Nat.mul_zero, not_true_eq_false, not_false_eq_true, false_implies, true_implies]
            refine ⟨fun _ => ?_, fun q => absurd (by omega) q⟩
            exact h S' a1 f
          · intro S' a1 f
            obtain ⟨w1, w2, w3⟩ := jvTs3_W (x := (s, d, e)) hW i (by show jz s 31 + i < 3000; omega)
            apply jb_St_live_9
            simp (disch := first | omega | decide) only [jaU_eq, jaU_U, nI_add, pk_mul, jaIx_nI, vp_inT, true_and, and_true, ↓jaO0, ↓jaO1, nI_z, nI_z2, nI_z3, nI_z4, nI_z5, nI_lt', nI_le', nI_eq', jaUI_at, jaPt_eq, jaPt_ne, jaUI_o, jaUI_2, jaUL_at, jaUL_o, jaUL_1, jaB_z, jaB_1, ↓jaB_01, Classical.not_not, and_self, true_or, or_true, nI_11, Nat.reduceEqDiff, Nat.reduceAdd, Nat.reduceMul, Nat.add_zero, Nat.zero_add, Nat.mul_zero, not_true_eq_false, not_false_eq_true, false_implies, true_implies]
            refine ⟨fun q => absurd q (by omega), fun _ => ?_⟩
            exact sp_St_passTick3 (by omega) a1 w1 (fun S2 a2 f2 => ih S2 a2 (f2.trans f))
        · rw [jaIf1_t (by omega)] at h
          exact h S hR rfl
end
