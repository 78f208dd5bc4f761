section
/-! the class: a COPY told, a LINE, a WORLD -/
set_option maxHeartbeats 1000000 in
theorem sp_Wo_readCopy {D : Nat} (hD : 3 ≤ D) {kk : Int32 → jaT → Prop} {τ : jaT} {X : jtX} {w : jwS} {k i : Nat} (hk : k ≠ 0) (hR : jtR (τ 0) X i) (hc : jcW (τ k) w) (hw : jwW w) (h : ∀ w' i', jwCo X w i = .inr (w', i') → ∀ τ', jcW (τ' k) w' → jtR (τ' 0) X i' → jcFr k τ τ' → kk (nI 1) τ') (hf : ∀ c p, jwCo X w i = .inl (c, p) → ∀ τ', jtFl (τ' 0) X c p → jcF4 k τ τ' → kk (nI 0) τ') : jaDe D jy_Wo_readCopy [jcWo k, .inr (.inr (2, 0, 0))] τ (jaKi kk) := by
  obtain ⟨D, rfl, hD⟩ := jaSuc hD
  have hn := hc.n hw
  obtain ⟨⟨a0, a1, a2, a3, a4⟩, b1, b2, b3, b4⟩ := hc
  have he := hw.2.2.1
  have h10 := hw.2.1.2
  unfold jwCo at h hf
  have e0 : (τ k).1 30 0 2 = nI (jz w.1 2) := a2.trans he.1
  apply js_Wo_readCopy
  simp (disch := first | omega | decide) only [jaU_eq, jaU_U, nI_add, pk_mul, jaIx_nI, vp_inT, true_and, and_true, ↓jaO0, ↓jaO1, nI_z, nI_z2, nI_z3, nI_z4, nI_z5, nI_lt', nI_le', nI_eq', jaUI_at, jaPt_eq, jaPt_ne, jaUI_o, jaUI_2, jaUL_at, jaUL_o, jaUL_1, jaB_z, jaB_1, ↓jaB_01, Classical.not_not, and_self, true_or, or_true, nI_11, Nat.reduceEqDiff, Nat.reduceAdd, Nat.reduceMul, Nat.add_zero, Nat.zero_add, Nat.mul_zero, not_true_eq_false, not_false_eq_true, false_implies, true_implies, e0]
  refine ⟨fun q => ?_, fun q => ?_⟩
  · rw [jaIf1_f (by omega)] at h hf
    refine sp_Rd_step (by omega) hR (fun S' s1 s2 s3 => ?_)
    have f1 : jtF2 τ (jaU τ 0 S') := jtF2.u s1 s2
    have ek1 : jaU τ 0 S' k = τ k := jaU_ne hk
    rw [ek1, e0]
    (try simp (disch := first | omega | decide) only [jaU_eq, jaU_U, nI_add, pk_mul, jaIx_nI, vp_inT, true_and, and_true, ↓jaO0, ↓jaO1, nI_z, nI_z2, nI_z3, nI_z4, nI_z5, nI_lt', nI_le', nI_eq', jaUI_at, jaPt_eq, jaPt_ne, jaUI_o, jaUI_2, jaUL_at, jaUL_o, jaUL_1, jaB_z, jaB_1, ↓jaB_01, Classical.not_not, and_self, true_or, or_true, nI_11, Nat.reduceEqDiff, Nat.reduceAdd, Nat.reduceMul, Nat.add_zero, Nat.zero_add, Nat.mul_zero, not_true_eq_false, not_false_eq_true, false_implies, true_implies])
    refine sp_Wo_takeNewName (i := i + 1) (X := X) (h0 := w.1) (nm := w.2.1) (by omega) hk (by rw [jaU_eq]; exact s3) (by rw [ek1]; exact hn) hw.u (by omega) (fun nm' hv τ1 r1 r2 r3 r4 => ?_) (fun c p hv τ' r1 r4 => ?_)
    · rw [hv] at h hf
      rw [ek1] at r3
      refine ⟨fun _ => ?_, fun z => absurd z (by decide)⟩
      have h1 : ∀ w' i', (jwB (jwNum X 1 4 (i + 2)) fun v => (jaIf1 (jtK X (i + 3) = 104 ∨ jtK X (i + 3) = 103) (.inr ((jaPt (jaPt (jaPt w.1 (25 + jz w.1 2) (nI v)) (28 + jz w.1 2) (nI (jaBn (jtK X (i + 3) = 104)))) 2 (nI (jz w.1 2 + 1)), nm', w.2.2), i + 4)) (.inl (1, i + 3)) : Sum jwF (jwS × Nat))) = .inr (w', i') → ∀ τ', jcW (τ' k) w' → jtR (τ' 0) X i' → jcFr k τ τ' → kk (nI 1) τ' := h
      have hf1 : ∀ c p, (jwB (jwNum X 1 4 (i + 2)) fun v => (jaIf1 (jtK X (i + 3) = 104 ∨ jtK X (i + 3) = 103) (.inr ((jaPt (jaPt (jaPt w.1 (25 + jz w.1 2) (nI v)) (28 + jz w.1 2) (nI (jaBn (jtK X (i + 3) = 104)))) 2 (nI (jz w.1 2 + 1)), nm', w.2.2), i + 4)) (.inl (1, i + 3)) : Sum jwF (jwS × Nat))) = .inl (c, p) → ∀ τ', jtFl (τ' 0) X c p → jcF4 k τ τ' → kk (nI 0) τ' := hf
      refine sp_Rd_num (i := i + 2) (X := X) (by omega) r1 (by omega) (by omega) (fun v hv2 v9 τ2 t1 t2 => ?_) (fun c p hv2 τ2 t1 t2 => ?_)
      · rw [hv2] at h1 hf1
        have h2 : ∀ w' i', (jaIf1 (jtK X (i + 3) = 104 ∨ jtK X (i + 3) = 103) (.inr ((jaPt (jaPt (jaPt w.1 (25 + jz w.1 2) (nI v)) (28 + jz w.1 2) (nI (jaBn (jtK X (i + 3) = 104)))) 2 (nI (jz w.1 2 + 1)), nm', w.2.2), i + 4)) (.inl (1, i + 3)) : Sum jwF (jwS × Nat)) = .inr (w', i') → ∀ τ', jcW (τ' k) w' → jtR (τ' 0) X i' → jcFr k τ τ' → kk (nI 1) τ' := h1
        have hf2 : ∀ c p, (jaIf1 (jtK X (i + 3) = 104 ∨ jtK X (i + 3) = 103) (.inr ((jaPt (jaPt (jaPt w.1 (25 + jz w.1 2) (nI v)) (28 + jz w.1 2) (nI (jaBn (jtK X (i + 3) = 104)))) 2 (nI (jz w.1 2 + 1)), nm', w.2.2), i + 4)) (.inl (1, i + 3)) : Sum jwF (jwS × Nat)) = .inl (c, p) → ∀ τ', jtFl (τ' 0) X c p → jcF4 k τ τ' → kk (nI 0) τ' := hf1
        have ek2 : (τ2 k).1 = (τ k).1 := by rw [t2.1 k hk, r3]
        have el2 : (τ2 k).2 = (τ1 k).2 := by rw [t2.1 k hk]
        have hK3 := t1.x
        refine ⟨fun _ => ?_, fun z => absurd (nI_pos' (by omega)) z⟩
        -- both ends
        have fin : ∀ b : Nat, b ≤ 1 → nI b = nI (jaBn (jtK X (i + 3) = 104)) → (jtK X (i + 3) = 104 ∨ jtK X (i + 3) = 103) → ∀ τ3, jtR (τ3 0) X (i + 3 + 1) → jtF2 τ2 τ3 → kk (nI 1) (jaU τ3 k (jaUI (jaUI (jaUI (τ3 k) 33 0 (jz w.1 2) (nI v)) 34 0 (jz w.1 2) (nI b)) 30 0 2 (nI (jz w.1 2 + 1)))) := by
          intro b hb hbe hK τ3 u1 u2
          rw [jaIf1_t hK] at h2
          have ek3 : (τ3 k).1 = (τ k).1 := by rw [u2.1 k hk, ek2]
          have el3 : (τ3 k).2 = (τ1 k).2 := by rw [u2.1 k hk, el2]
          refine h2 _ _ rfl _ ?_ (by rw [jaU_ne (Ne.symm hk)]; exact u1) (f1.c.trans (r4.trans (t2.c.trans (u2.c.trans (jcFr.k hk)))))
          rw [jaU_eq, ← hbe]
          have ne : ∀ j, j ≠ 2 → j ≠ 25 + jz w.1 2 → j ≠ 28 + jz w.1 2 → jaPt (jaPt (jaPt w.1 (25 + jz w.1 2) (nI v)) (28 + jz w.1 2) (nI b)) 2 (nI (jz w.1 2 + 1)) j = w.1 j := fun j x1 x2 x3 => by rw [jaPt_ne x1, jaPt_ne x3, jaPt_ne x2]
          have n5 : jaPt (jaPt (jaPt w.1 (25 + jz w.1 2) (nI v)) (28 + jz w.1 2) (nI b)) 2 (nI (jz w.1 2 + 1)) (25 + jz w.1 2) = nI v := by rw [jaPt_ne (by omega), jaPt_ne (by omega), jaPt_eq]
          have n15 : jaPt (jaPt (jaPt w.1 (25 + jz w.1 2) (nI v)) (28 + jz w.1 2) (nI b)) 2 (nI (jz w.1 2 + 1)) (28 + jz w.1 2) = nI b := by rw [jaPt_ne (by omega), jaPt_eq]
          have n1 : jaPt (jaPt (jaPt w.1 (25 + jz w.1 2) (nI v)) (28 + jz w.1 2) (nI b)) 2 (nI (jz w.1 2 + 1)) 2 = nI (jz w.1 2 + 1) := jaPt_eq
          generalize jaPt (jaPt (jaPt w.1 (25 + jz w.1 2) (nI v)) (28 + jz w.1 2) (nI b)) 2 (nI (jz w.1 2 + 1)) = h' at *
          have z1 : jz h' 2 = jz w.1 2 + 1 := by rw [jz, n1, jaIx_nI (by omega)]
          have z2 : jz h' 1 = jz w.1 1 := jz_c (ne 1 (by omega) (by omega) (by omega))
          refine ⟨⟨?_, ?_, ?_, ?_, ?_⟩, fun q hq => ?_, fun c hc => ?_, fun c hc => ?_, fun j hj => ?_⟩
          · show _ = h' 0
            rw [ne 0 (by omega) (by omega) (by omega)]
            simp (disch := first | omega | decide) only [jaU_eq, jaU_U, nI_add, pk_mul, jaIx_nI, vp_inT, true_and, and_true, ↓jaO0, ↓jaO1, nI_z, nI_z2, nI_z3, nI_z4, nI_z5, nI_lt', nI_le', nI_eq', jaUI_at, jaPt_eq, jaPt_ne, jaUI_o, jaUI_2, jaUL_at, jaUL_o, jaUL_1, jaB_z, jaB_1, ↓jaB_01, Classical.not_not, and_self, true_or, or_true, nI_11, Nat.reduceEqDiff, Nat.reduceAdd, Nat.reduceMul, Nat.add_zero, Nat.zero_add, Nat.mul_zero, not_true_eq_false, not_false_eq_true, false_implies, true_implies, ek3, a0]
          · show _ = h' 1
            rw [ne 1 (by omega) (by omega) (by omega)]
            simp (disch := first | omega | decide) only [jaU_eq, jaU_U, nI_add, pk_mul, jaIx_nI, vp_inT, true_and, and_true, ↓jaO0, ↓jaO1, nI_z, nI_z2, nI_z3, nI_z4, nI_z5, nI_lt', nI_le', nI_eq', jaUI_at, jaPt_eq, jaPt_ne, jaUI_o, jaUI_2, jaUL_at, jaUL_o, jaUL_1, jaB_z, jaB_1, ↓jaB_01, Classical.not_not, and_self, true_or, or_true, nI_11, Nat.reduceEqDiff, Nat.reduceAdd, Nat.reduceMul, Nat.add_zero, Nat.zero_add, Nat.mul_zero, not_true_eq_false, not_false_eq_true, false_implies, true_implies, ek3, a1]
          · show _ = h' 2
            rw [n1]
            simp (disch := first | omega | decide) only [jaU_eq, jaU_U, nI_add, pk_mul, jaIx_nI, vp_inT, true_and, and_true, ↓jaO0, ↓jaO1, nI_z, nI_z2, nI_z3, nI_z4, nI_z5, nI_lt', nI_le', nI_eq', jaUI_at, jaPt_eq, jaPt_ne, jaUI_o, jaUI_2, jaUL_at, jaUL_o, jaUL_1, jaB_z, jaB_1, ↓jaB_01, Classical.not_not, and_self, true_or, or_true, nI_11, Nat.reduceEqDiff, Nat.reduceAdd, Nat.reduceMul, Nat.add_zero, Nat.zero_add, Nat.mul_zero, not_true_eq_false, not_false_eq_true, false_implies, true_implies]
          · show _ = jaIf1 _ (h' 3) _
            rw [ne 3 (by omega) (by omega) (by omega)]
            simp (disch := first | omega | decide) only [jaU_eq, jaU_U, nI_add, pk_mul, jaIx_nI, vp_inT, true_and, and_true, ↓jaO0, ↓jaO1, nI_z, nI_z2, nI_z3, nI_z4, nI_z5, nI_lt', nI_le', nI_eq', jaUI_at, jaPt_eq, jaPt_ne, jaUI_o, jaUI_2, jaUL_at, jaUL_o, jaUL_1, jaB_z, jaB_1, ↓jaB_01, Classical.not_not, and_self, true_or, or_true, nI_11, Nat.reduceEqDiff, Nat.reduceAdd, Nat.reduceMul, Nat.add_zero, Nat.zero_add, Nat.mul_zero, not_true_eq_false, not_false_eq_true, false_implies, true_implies, ek3, a3]
          · show _ = jaIf1 _ (h' 4) _
            rw [ne 4 (by omega) (by omega) (by omega)]
            simp (disch := first | omega | decide) only [jaU_eq, jaU_U, nI_add, pk_mul, jaIx_nI, vp_inT, true_and, and_true, ↓jaO0, ↓jaO1, nI_z, nI_z2, nI_z3, nI_z4, nI_z5, nI_lt', nI_le', nI_eq', jaUI_at, jaPt_eq, jaPt_ne, jaUI_o, jaUI_2, jaUL_at, jaUL_o, jaUL_1, jaB_z, jaB_1, ↓jaB_01, Classical.not_not, and_self, true_or, or_true, nI_11, Nat.reduceEqDiff, Nat.reduceAdd, Nat.reduceMul, Nat.add_zero, Nat.zero_add, Nat.mul_zero, not_true_eq_false, not_false_eq_true, false_implies, true_implies, ek3, a4]
          · have hq : q < jz h' 1 := hq
            rw [z2] at hq
            show _ = h' (5 + q) ∧ _ = h' (15 + q)
            rw [ne _ (by omega) (by omega) (by omega), ne _ (by omega) (by omega) (by omega)]
            simp (disch := first | omega | decide) only [jaU_eq, jaU_U, nI_add, pk_mul, jaIx_nI, vp_inT, true_and, and_true, ↓jaO0, ↓jaO1, nI_z, nI_z2, nI_z3, nI_z4, nI_z5, nI_lt', nI_le', nI_eq', jaUI_at, jaPt_eq, jaPt_ne, jaUI_o, jaUI_2, jaUL_at, jaUL_o, jaUL_1, jaB_z, jaB_1, ↓jaB_01, Classical.not_not, and_self, true_or, or_true, nI_11, Nat.reduceEqDiff, Nat.reduceAdd, Nat.reduceMul, Nat.add_zero, Nat.zero_add, Nat.mul_zero, not_true_eq_false, not_false_eq_true, false_implies, true_implies, ek3]
            exact b1 q (by omega)
          · have hc : c < jz h' 2 := hc
            rw [z1] at hc
            show _ = h' (25 + c) ∧ _ = h' (28 + c)
            by_cases y : c = jz w.1 2
            · rw [y, n5, n15]
              simp (disch := first | omega | decide) only [jaU_eq, jaU_U, nI_add, pk_mul, jaIx_nI, vp_inT, true_and, and_true, ↓jaO0, ↓jaO1, nI_z, nI_z2, nI_z3, nI_z4, nI_z5, nI_lt', nI_le', nI_eq', jaUI_at, jaPt_eq, jaPt_ne, jaUI_o, jaUI_2, jaUL_at, jaUL_o, jaUL_1, jaB_z, jaB_1, ↓jaB_01, Classical.not_not, and_self, true_or, or_true, nI_11, Nat.reduceEqDiff, Nat.reduceAdd, Nat.reduceMul, Nat.add_zero, Nat.zero_add, Nat.mul_zero, not_true_eq_false, not_false_eq_true, false_implies, true_implies]
            · rw [ne _ (by omega) (by omega) (by omega), ne _ (by omega) (by omega) (by omega)]
              simp (disch := first | omega | decide) only [jaU_eq, jaU_U, nI_add, pk_mul, jaIx_nI, vp_inT, true_and, and_true, ↓jaO0, ↓jaO1, nI_z, nI_z2, nI_z3, nI_z4, nI_z5, nI_lt', nI_le', nI_eq', jaUI_at, jaPt_eq, jaPt_ne, jaUI_o, jaUI_2, jaUL_at, jaUL_o, jaUL_1, jaB_z, jaB_1, ↓jaB_01, Classical.not_not, and_self, true_or, or_true, nI_11, Nat.reduceEqDiff, Nat.reduceAdd, Nat.reduceMul, Nat.add_zero, Nat.zero_add, Nat.mul_zero, not_true_eq_false, not_false_eq_true, false_implies, true_implies, ek3]
              exact b2 c (by omega)
          · by_cases y : c = jz w.1 2
            · rw [y]
              simp (disch := first | omega | decide) only [jaU_eq, jaU_U, nI_add, pk_mul, jaIx_nI, vp_inT, true_and, and_true, ↓jaO0, ↓jaO1, nI_z, nI_z2, nI_z3, nI_z4, nI_z5, nI_lt', nI_le', nI_eq', jaUI_at, jaPt_eq, jaPt_ne, jaUI_o, jaUI_2, jaUL_at, jaUL_o, jaUL_1, jaB_z, jaB_1, ↓jaB_01, Classical.not_not, and_self, true_or, or_true, nI_11, Nat.reduceEqDiff, Nat.reduceAdd, Nat.reduceMul, Nat.add_zero, Nat.zero_add, Nat.mul_zero, not_true_eq_false, not_false_eq_true, false_implies, true_implies]
              have : b = 0 ∨ b = 1 := by omega
              rcases this with y2 | y2
              · rw [y2]; exact Or.inl rfl
              · rw [y2]; exact Or.inr rfl
            · simp (disch := first | omega | decide) only [jaU_eq, jaU_U, nI_add, pk_mul, jaIx_nI, vp_inT, true_and, and_true, ↓jaO0, ↓jaO1, nI_z, nI_z2, nI_z3, nI_z4, nI_z5, nI_lt', nI_le', nI_eq', jaUI_at, jaPt_eq, jaPt_ne, jaUI_o, jaUI_2, jaUL_at, jaUL_o, jaUL_1, jaB_z, jaB_1, ↓jaB_01, Classical.not_not, and_self, true_or, or_true, nI_11, Nat.reduceEqDiff, Nat.reduceAdd, Nat.reduceMul, Nat.add_zero, Nat.zero_add, Nat.mul_zero, not_true_eq_false, not_false_eq_true, false_implies, true_implies, ek3]
              exact b3 c hc
          · simp only [jaUI_2]
            rw [el3]
            exact (r2 j hj).1
        refine sp_Rd_kind (by omega) t1 ?_
        simp (disch := first | omega | decide) only [jaU_eq, jaU_U, nI_add, pk_mul, jaIx_nI, vp_inT, true_and, and_true, ↓jaO0, ↓jaO1, nI_z, nI_z2, nI_z3, nI_z4, nI_z5, nI_lt', nI_le', nI_eq', jaUI_at, jaPt_eq, jaPt_ne, jaUI_o, jaUI_2, jaUL_at, jaUL_o, jaUL_1, jaB_z, jaB_1, ↓jaB_01, Classical.not_not, and_self, true_or, or_true, nI_11, Nat.reduceEqDiff, Nat.reduceAdd, Nat.reduceMul, Nat.add_zero, Nat.zero_add, Nat.mul_zero, not_true_eq_false, not_false_eq_true, false_implies, true_implies]
        refine ⟨fun z => ?_, fun z => ?_⟩
        · refine sp_Rd_kind (by omega) t1 ?_
          simp (disch := first | omega | decide) only [jaU_eq, jaU_U, nI_add, pk_mul, jaIx_nI, vp_inT, true_and, and_true, ↓jaO0, ↓jaO1, nI_z, nI_z2, nI_z3, nI_z4, nI_z5, nI_lt', nI_le', nI_eq', jaUI_at, jaPt_eq, jaPt_ne, jaUI_o, jaUI_2, jaUL_at, jaUL_o, jaUL_1, jaB_z, jaB_1, ↓jaB_01, Classical.not_not, and_self, true_or, or_true, nI_11, Nat.reduceEqDiff, Nat.reduceAdd, Nat.reduceMul, Nat.add_zero, Nat.zero_add, Nat.mul_zero, not_true_eq_false, not_false_eq_true, false_implies, true_implies]
          refine ⟨fun z2 => ?_, fun z2 => ?_⟩
          · refine sp_Rd_step (by omega) t1 (fun S3 u1 u2 u3 => ?_)
            have e3 : (jaU τ2 0 S3) k = τ2 k := jaU_ne hk
            simp (disch := first | omega | decide) only [jaU_eq, jaU_U, nI_add, pk_mul, jaIx_nI, vp_inT, true_and, and_true, ↓jaO0, ↓jaO1, nI_z, nI_z2, nI_z3, nI_z4, nI_z5, nI_lt', nI_le', nI_eq', jaUI_at, jaPt_eq, jaPt_ne, jaUI_o, jaUI_2, jaUL_at, jaUL_o, jaUL_1, jaB_z, jaB_1, ↓jaB_01, Classical.not_not, and_self, true_or, or_true, nI_11, Nat.reduceEqDiff, Nat.reduceAdd, Nat.reduceMul, Nat.add_zero, Nat.zero_add, Nat.mul_zero, not_true_eq_false, not_false_eq_true, false_implies, true_implies, e3, ek2, e0]
            have := fin 0 (by omega) (by rw [jaBn_f z]) (Or.inr z2) (jaU τ2 0 S3) (by rw [jaU_eq]; exact u3) (jtF2.u u1 u2)
            rw [e3] at this
            exact this
          · rw [jaIf1_f (fun y => y.elim z z2)] at hf2
            exact sp_Rd_fail (by omega) t1 (fun S3 u1 u2 u3 => ⟨Or.inl rfl, hf2 1 _ rfl _ (by rw [jaU_eq]; exact u3) ⟨f1.c.trans (r4.trans (t2.c.trans (jtF2.u u1 u2).c)), by rw [jaU_ne hk, ek2]⟩⟩)
        · refine sp_Rd_step (by omega) t1 (fun S3 u1 u2 u3 => ?_)
          have e3 : (jaU τ2 0 S3) k = τ2 k := jaU_ne hk
          simp (disch := first | omega | decide) only [jaU_eq, jaU_U, nI_add, pk_mul, jaIx_nI, vp_inT, true_and, and_true, ↓jaO0, ↓jaO1, nI_z, nI_z2, nI_z3, nI_z4, nI_z5, nI_lt', nI_le', nI_eq', jaUI_at, jaPt_eq, jaPt_ne, jaUI_o, jaUI_2, jaUL_at, jaUL_o, jaUL_1, jaB_z, jaB_1, ↓jaB_01, Classical.not_not, and_self, true_or, or_true, nI_11, Nat.reduceEqDiff, Nat.reduceAdd, Nat.reduceMul, Nat.add_zero, Nat.zero_add, Nat.mul_zero, not_true_eq_false, not_false_eq_true, false_implies, true_implies, e3, ek2, e0]
          have := fin 1 (by omega) (by rw [jaBn_t z]) (Or.inl z) (jaU τ2 0 S3) (by rw [jaU_eq]; exact u3) (jtF2.u u1 u2)
          rw [e3] at this
          exact this
      · rw [hv2] at hf1
        exact ⟨fun z => absurd (show (0 : Int32) ≤ -1 from z) (by decide), fun _ => hf1 c p rfl _ t1 ⟨f1.c.trans (r4.trans t2.c), by rw [t2.1 k hk, r3]⟩⟩
    · rw [hv] at hf
      exact ⟨fun z => absurd rfl z, fun _ => hf c p rfl _ r1 ((f1.c4 hk).trans r4)⟩
  · rw [jaIf1_t (by omega)] at hf
    exact sp_Rd_fail (by omega) hR (fun S' s1 s2 s3 => ⟨Or.inl rfl, hf 4 i rfl _ (by rw [jaU_eq]; exact s3) ((jtF2.u s1 s2).c4 hk)⟩)
theorem sp_Wo_readLine {D : Nat} (hD : 4 ≤ D) {kk : Int32 → jaT → Prop} {τ : jaT} {X : jtX} {w : jwS} {k i : Nat} (hk : k ≠ 0) (hR : jtR (τ 0) X i) (hc : jcW (τ k) w) (hw : jwW w) (h : ∀ w' i', jwLine X w i = .inr (w', i') → ∀ τ', jcW (τ' k) w' → jtR (τ' 0) X i' → jcFr k τ τ' → kk (nI 1) τ') (hf : ∀ c p, jwLine X w i = .inl (c, p) → ∀ τ', jtFl (τ' 0) X c p → jcF4 k τ τ' → kk (nI 0) τ') : jaDe D jy_Wo_readLine [jcWo k, .inr (.inr (2, 0, 0))] τ (jaKi kk) := by
  have hK := hR.x
  obtain ⟨D, rfl, hD⟩ := jaSuc hD
  unfold jwLine at h hf
  apply js_Wo_readLine
  refine sp_Rd_kind (by omega) hR ?_
  rw [nI_toInt (by omega)]
  have bad : (¬ jtK X i = 105 ∧ ¬ jtK X i = 106 ∧ ¬ jtK X i = 100 ∧ ¬ jtK X i = 101 ∧ ¬ jtK X i = 102) → jaDe D jy_Rd_fail [.inr (.inr (2, 0, 0)), .inl (nI 1)] τ (jaKi fun r4 σ3 => (r4 = 0 ∨ r4 = 1) ∧ kk r4 σ3) := fun z => by
    rw [jaIf1_f z.1, jaIf1_f z.2.1, jaIf1_f z.2.2.1, jaIf1_f z.2.2.2.1, jaIf1_f z.2.2.2.2] at hf
    exact sp_Rd_fail (by omega) hR (fun S' s1 s2 s3 => ⟨Or.inl rfl, hf 1 i rfl _ (by rw [jaU_eq]; exact s3) ((jtF2.u s1 s2).c4 hk)⟩)
  refine ⟨fun z => bad (by omega), fun z => ?_, fun z => ?_, fun z => ?_, fun z => bad ?_, fun z => bad ?_, fun z => ?_, fun z => ?_, trivial⟩
  · rw [nI_eq' (by omega) (by omega)] at z
    rw [jaIf1_f (by omega), jaIf1_f (by omega), jaIf1_t z] at h hf
    exact sp_Wo_readSite (by omega) hk hR hc hw (fun w' i' e τ' r1 r2 r3 => ⟨Or.inr rfl, h w' i' e τ' r1 r2 r3⟩) (fun c p e τ' r1 r2 => ⟨Or.inl rfl, hf c p e τ' r1 r2⟩)
  · rw [nI_eq' (by omega) (by omega)] at z
    rw [jaIf1_f (by omega), jaIf1_f (by omega), jaIf1_f (by omega), jaIf1_t z] at h hf
    exact sp_Wo_readKey (by omega) hk hR hc hw (fun w' i' e τ' r1 r2 r3 => ⟨Or.inr rfl, h w' i' e τ' r1 r2 r3⟩) (fun c p e τ' r1 r2 => ⟨Or.inl rfl, hf c p e τ' r1 r2⟩)
  · rw [nI_eq' (by omega) (by omega)] at z
    rw [jaIf1_f (by omega), jaIf1_f (by omega), jaIf1_f (by omega), jaIf1_f (by omega), jaIf1_t z] at h hf
    exact sp_Wo_readCopy (by omega) hk hR hc hw (fun w' i' e τ' r1 r2 r3 => ⟨Or.inr rfl, h w' i' e τ' r1 r2 r3⟩) (fun c p e τ' r1 r2 => ⟨Or.inl rfl, hf c p e τ' r1 r2⟩)
  · rw [nI_eq' (by omega) (by omega)] at z
    omega
  · rw [nI_eq' (by omega) (by omega)] at z
    omega
  · rw [nI_eq' (by omega) (by omega)] at z
    rw [jaIf1_t z] at h hf
    exact sp_Wo_readEpoch (by omega) hk hR hc hw (fun w' i' e τ' r1 r2 r3 => ⟨Or.inr rfl, h w' i' e τ' r1 r2 r3⟩) (fun c p e τ' r1 r2 => ⟨Or.inl rfl, hf c p e τ' r1 r2⟩)
  · rw [nI_eq' (by omega) (by omega)] at z
    rw [jaIf1_f (by omega), jaIf1_t z] at h hf
    exact sp_Wo_readLink (by omega) hk hR hc hw (fun w' i' e τ' r1 r2 r3 => ⟨Or.inr rfl, h w' i' e τ' r1 r2 r3⟩) (fun c p e τ' r1 r2 => ⟨Or.inl rfl, hf c p e τ' r1 r2⟩)
end
