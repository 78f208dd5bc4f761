section
/-! the class: a SITE, a KEY, a COPY told -/
theorem jwW.u {w : jwS} (h : jwW w) : ∀ j, j < 16 → ¬ jwU w.1 j → w.2.1 j = 0 := fun j hj => (h.2.2.2.2.2.2.2.1 j hj).2
theorem sp_Wo_readSite {D : Nat} (hD : 3 ≤ D) {kk : Int32 → jaT → Prop} {τ : jaT} {X : jtX} {w : jwS} {k i : Nat} (hk : k ≠ 0) (hR : jtR (τ 0) X i) (hc : jcW (τ k) w) (hw : jwW w) (h : ∀ w' i', jwSi X w i = .inr (w', i') → ∀ τ', jcW (τ' k) w' → jtR (τ' 0) X i' → jcFr k τ τ' → kk (nI 1) τ') (hf : ∀ c p, jwSi X w i = .inl (c, p) → ∀ τ', jtFl (τ' 0) X c p → jcF4 k τ τ' → kk (nI 0) τ') : jaDe D jy_Wo_readSite [jcWo k, .inr (.inr (2, 0, 0))] τ (jaKi kk) := by
  obtain ⟨D, rfl, hD⟩ := jaSuc hD
  have hn := hc.n hw
  obtain ⟨⟨a0, a1, a2, a3, a4⟩, b1, b2, b3, b4⟩ := hc
  have he := hw.1
  have h10 := hw.2.1.2
  have h3 := hw.2.2.1.2
  unfold jwSi at h hf
  have e0 : (τ k).1 30 0 0 = nI (jz w.1 0) := a0.trans he.1
  apply js_Wo_readSite
  simp (disch := first | omega | decide) only [jaU_eq, jaU_U, nI_add, pk_mul, jaIx_nI, vp_inT, true_and, and_true, ↓jaO0, ↓jaO1, nI_z, nI_z2, nI_z3, nI_z4, nI_z5, nI_lt', nI_le', nI_eq', jaUI_at, jaPt_eq, jaPt_ne, jaUI_o, jaUI_2, jaUL_at, jaUL_o, jaUL_1, jaB_z, jaB_1, ↓jaB_01, Classical.not_not, and_self, true_or, or_true, nI_11, Nat.reduceEqDiff, Nat.reduceAdd, Nat.reduceMul, Nat.add_zero, Nat.zero_add, Nat.mul_zero, not_true_eq_false, not_false_eq_true, false_implies, true_implies, e0]
  refine ⟨fun q => ?_, fun q => ?_⟩
  · rw [jaIf1_f (by omega)] at h hf
    refine sp_Rd_step (by omega) hR (fun S' s1 s2 s3 => ?_)
    have f1 : jtF2 τ (jaU τ 0 S') := jtF2.u s1 s2
    have ek1 : jaU τ 0 S' k = τ k := jaU_ne hk
    rw [ek1, e0]
    (try simp (disch := first | omega | decide) only [jaU_eq, jaU_U, nI_add, pk_mul, jaIx_nI, vp_inT, true_and, and_true, ↓jaO0, ↓jaO1, nI_z, nI_z2, nI_z3, nI_z4, nI_z5, nI_lt', nI_le', nI_eq', jaUI_at, jaPt_eq, jaPt_ne, jaUI_o, jaUI_2, jaUL_at, jaUL_o, jaUL_1, jaB_z, jaB_1, ↓jaB_01, Classical.not_not, and_self, true_or, or_true, nI_11, Nat.reduceEqDiff, Nat.reduceAdd, Nat.reduceMul, Nat.add_zero, Nat.zero_add, Nat.mul_zero, not_true_eq_false, not_false_eq_true, false_implies, true_implies])
    refine sp_Wo_takeNewName (i := i + 1) (X := X) (h0 := w.1) (nm := w.2.1) (by omega) hk (by rw [jaU_eq]; exact s3) (by rw [ek1]; exact hn) hw.u (by omega) (fun nm' hv τ' r1 r2 r3 r4 => ?_) (fun c p hv τ' r1 r4 => ?_)
    · rw [hv] at h
      rw [ek1] at r3
      refine ⟨fun _ => ?_, fun z => absurd z (by decide)⟩
      simp only [r3, e0, nI_add]
      refine h _ _ rfl _ ?_ (by rw [jaU_ne (Ne.symm hk)]; exact r1) (f1.c.trans (r4.trans (jcFr.k hk)))
      rw [jaU_eq]
      have z1 : jz (jaPt w.1 0 (nI (jz w.1 0 + 1))) 1 = jz w.1 1 := jz_c (jaPt_ne (by decide))
      have z2 : jz (jaPt w.1 0 (nI (jz w.1 0 + 1))) 2 = jz w.1 2 := jz_c (jaPt_ne (by decide))
      refine ⟨⟨?_, ?_, ?_, ?_, ?_⟩, fun q hq => ?_, fun c hc => ?_, fun c hc => ?_, fun j hj => ?_⟩
      · simp (disch := first | omega | decide) only [jaU_eq, jaU_U, nI_add, pk_mul, jaIx_nI, vp_inT, true_and, and_true, ↓jaO0, ↓jaO1, nI_z, nI_z2, nI_z3, nI_z4, nI_z5, nI_lt', nI_le', nI_eq', jaUI_at, jaPt_eq, jaPt_ne, jaUI_o, jaUI_2, jaUL_at, jaUL_o, jaUL_1, jaB_z, jaB_1, ↓jaB_01, Classical.not_not, and_self, true_or, or_true, nI_11, Nat.reduceEqDiff, Nat.reduceAdd, Nat.reduceMul, Nat.add_zero, Nat.zero_add, Nat.mul_zero, not_true_eq_false, not_false_eq_true, false_implies, true_implies]
      · simp (disch := first | omega | decide) only [jaU_eq, jaU_U, nI_add, pk_mul, jaIx_nI, vp_inT, true_and, and_true, ↓jaO0, ↓jaO1, nI_z, nI_z2, nI_z3, nI_z4, nI_z5, nI_lt', nI_le', nI_eq', jaUI_at, jaPt_eq, jaPt_ne, jaUI_o, jaUI_2, jaUL_at, jaUL_o, jaUL_1, jaB_z, jaB_1, ↓jaB_01, Classical.not_not, and_self, true_or, or_true, nI_11, Nat.reduceEqDiff, Nat.reduceAdd, Nat.reduceMul, Nat.add_zero, Nat.zero_add, Nat.mul_zero, not_true_eq_false, not_false_eq_true, false_implies, true_implies, r3, a1]
      · simp (disch := first | omega | decide) only [jaU_eq, jaU_U, nI_add, pk_mul, jaIx_nI, vp_inT, true_and, and_true, ↓jaO0, ↓jaO1, nI_z, nI_z2, nI_z3, nI_z4, nI_z5, nI_lt', nI_le', nI_eq', jaUI_at, jaPt_eq, jaPt_ne, jaUI_o, jaUI_2, jaUL_at, jaUL_o, jaUL_1, jaB_z, jaB_1, ↓jaB_01, Classical.not_not, and_self, true_or, or_true, nI_11, Nat.reduceEqDiff, Nat.reduceAdd, Nat.reduceMul, Nat.add_zero, Nat.zero_add, Nat.mul_zero, not_true_eq_false, not_false_eq_true, false_implies, true_implies, r3, a2]
      · simp (disch := first | omega | decide) only [jaU_eq, jaU_U, nI_add, pk_mul, jaIx_nI, vp_inT, true_and, and_true, ↓jaO0, ↓jaO1, nI_z, nI_z2, nI_z3, nI_z4, nI_z5, nI_lt', nI_le', nI_eq', jaUI_at, jaPt_eq, jaPt_ne, jaUI_o, jaUI_2, jaUL_at, jaUL_o, jaUL_1, jaB_z, jaB_1, ↓jaB_01, Classical.not_not, and_self, true_or, or_true, nI_11, Nat.reduceEqDiff, Nat.reduceAdd, Nat.reduceMul, Nat.add_zero, Nat.zero_add, Nat.mul_zero, not_true_eq_false, not_false_eq_true, false_implies, true_implies, r3, a3]
      · simp (disch := first | omega | decide) only [jaU_eq, jaU_U, nI_add, pk_mul, jaIx_nI, vp_inT, true_and, and_true, ↓jaO0, ↓jaO1, nI_z, nI_z2, nI_z3, nI_z4, nI_z5, nI_lt', nI_le', nI_eq', jaUI_at, jaPt_eq, jaPt_ne, jaUI_o, jaUI_2, jaUL_at, jaUL_o, jaUL_1, jaB_z, jaB_1, ↓jaB_01, Classical.not_not, and_self, true_or, or_true, nI_11, Nat.reduceEqDiff, Nat.reduceAdd, Nat.reduceMul, Nat.add_zero, Nat.zero_add, Nat.mul_zero, not_true_eq_false, not_false_eq_true, false_implies, true_implies, r3, a4]
      · have hq : q < jz (jaPt w.1 0 (nI (jz w.1 0 + 1))) 1 := hq
        rw [z1] at hq
        show _ = jaPt w.1 0 _ (5 + q) ∧ _ = jaPt w.1 0 _ (15 + q)
        rw [jaPt_ne (by omega), jaPt_ne (by omega), jaUI_o (by decide), jaUI_o (by decide), r3]
        exact b1 q hq
      · have hc : c < jz (jaPt w.1 0 (nI (jz w.1 0 + 1))) 2 := hc
        rw [z2] at hc
        show _ = jaPt w.1 0 _ (25 + c) ∧ _ = jaPt w.1 0 _ (28 + c)
        rw [jaPt_ne (by omega), jaPt_ne (by omega), jaUI_o (by decide), jaUI_o (by decide), r3]
        exact b2 c hc
      · rw [jaUI_o (by decide), r3]
        exact b3 c hc
      · rw [jaUI_2]
        exact (r2 j hj).1
    · rw [hv] at hf
      exact ⟨fun z => absurd rfl z, fun _ => hf c p rfl _ r1 ((f1.c4 hk).trans r4)⟩
  · rw [jaIf1_t (by omega)] at hf
    exact sp_Rd_fail (by omega) hR (fun S' s1 s2 s3 => ⟨Or.inl rfl, hf 4 i rfl _ (by rw [jaU_eq]; exact s3) ((jtF2.u s1 s2).c4 hk)⟩)
set_option maxHeartbeats 1000000 in
theorem sp_Wo_readKey {D : Nat} (hD : 3 ≤ D) {kk : Int32 → jaT → Prop} {τ : jaT} {X : jtX} {w : jwS} {k i : Nat} (hk : k ≠ 0) (hR : jtR (τ 0) X i) (hc : jcW (τ k) w) (hw : jwW w) (h : ∀ w' i', jwKe X w i = .inr (w', i') → ∀ τ', jcW (τ' k) w' → jtR (τ' 0) X i' → jcFr k τ τ' → kk (nI 1) τ') (hf : ∀ c p, jwKe X w i = .inl (c, p) → ∀ τ', jtFl (τ' 0) X c p → jcF4 k τ τ' → kk (nI 0) τ') : jaDe D jy_Wo_readKey [jcWo k, .inr (.inr (2, 0, 0))] τ (jaKi kk) := by
  obtain ⟨D, rfl, hD⟩ := jaSuc hD
  have hn := hc.n hw
  obtain ⟨⟨a0, a1, a2, a3, a4⟩, b1, b2, b3, b4⟩ := hc
  have he0 := hw.1
  have he := hw.2.1
  have h3 := hw.2.2.1.2
  unfold jwKe at h hf
  have e0 : (τ k).1 30 0 1 = nI (jz w.1 1) := a1.trans he.1
  have e00 : (τ k).1 30 0 0 = nI (jz w.1 0) := a0.trans he0.1
  apply js_Wo_readKey
  simp (disch := first | omega | decide) only [jaU_eq, jaU_U, nI_add, pk_mul, jaIx_nI, vp_inT, true_and, and_true, ↓jaO0, ↓jaO1, nI_z, nI_z2, nI_z3, nI_z4, nI_z5, nI_lt', nI_le', nI_eq', jaUI_at, jaPt_eq, jaPt_ne, jaUI_o, jaUI_2, jaUL_at, jaUL_o, jaUL_1, jaB_z, jaB_1, ↓jaB_01, Classical.not_not, and_self, true_or, or_true, nI_11, Nat.reduceEqDiff, Nat.reduceAdd, Nat.reduceMul, Nat.add_zero, Nat.zero_add, Nat.mul_zero, not_true_eq_false, not_false_eq_true, false_implies, true_implies, e0]
  refine ⟨fun q => ?_, fun q => ?_⟩
  · rw [jaIf1_f (by omega)] at h hf
    refine sp_Rd_step (by omega) hR (fun S' s1 s2 s3 => ?_)
    have f1 : jtF2 τ (jaU τ 0 S') := jtF2.u s1 s2
    have ek1 : jaU τ 0 S' k = τ k := jaU_ne hk
    rw [ek1, e0]
    (try simp (disch := first | omega | decide) only [jaU_eq, jaU_U, nI_add, pk_mul, jaIx_nI, vp_inT, true_and, and_true, ↓jaO0, ↓jaO1, nI_z, nI_z2, nI_z3, nI_z4, nI_z5, nI_lt', nI_le', nI_eq', jaUI_at, jaPt_eq, jaPt_ne, jaUI_o, jaUI_2, jaUL_at, jaUL_o, jaUL_1, jaB_z, jaB_1, ↓jaB_01, Classical.not_not, and_self, true_or, or_true, nI_11, Nat.reduceEqDiff, Nat.reduceAdd, Nat.reduceMul, Nat.add_zero, Nat.zero_add, Nat.mul_zero, not_true_eq_false, not_false_eq_true, false_implies, true_implies])
    refine sp_Wo_takeNewName (i := i + 1) (X := X) (h0 := w.1) (nm := w.2.1) (by omega) hk (by rw [jaU_eq]; exact s3) (by rw [ek1]; exact hn) hw.u (by omega) (fun nm' hv τ1 r1 r2 r3 r4 => ?_) (fun c p hv τ' r1 r4 => ?_)
    · rw [hv] at h hf
      rw [ek1] at r3
      refine ⟨fun _ => ?_, fun z => absurd z (by decide)⟩
      rw [r3, e00]
      refine sp_Wo_nam (i := i + 2) (X := X) (nm := nm') (by omega) r1 r2 (by omega) (fun r hr τ2 t1 t2 => ?_) (fun c p hr τ2 t1 t2 => ?_)
      · have hrl := (jwNam_r hr).2.1
        have ek2 : τ2 k = τ1 k := t2.1 k hk
        refine ⟨fun _ => ?_, fun z => absurd (nI_pos' (by omega)) z⟩
        have h2 : ∀ w' i', (jwB (jwNum X 0 999 (i + 3)) fun v => (.inr ((jaPt (jaPt (jaPt w.1 (5 + jz w.1 1) (nI r)) (15 + jz w.1 1) (nI v)) 1 (nI (jz w.1 1 + 1)), nm', w.2.2), i + 4) : Sum jwF (jwS × Nat))) = .inr (w', i') → ∀ τ', jcW (τ' k) w' → jtR (τ' 0) X i' → jcFr k τ τ' → kk (nI 1) τ' := by
          intro w' i' e
          refine h w' i' ?_
          show jwB (jwNam X nm' 0 (jz w.1 0) (i + 2)) _ = _
          rw [hr]
          exact e
        have hf2 : ∀ c p, (jwB (jwNum X 0 999 (i + 3)) fun v => (.inr ((jaPt (jaPt (jaPt w.1 (5 + jz w.1 1) (nI r)) (15 + jz w.1 1) (nI v)) 1 (nI (jz w.1 1 + 1)), nm', w.2.2), i + 4) : Sum jwF (jwS × Nat))) = .inl (c, p) → ∀ τ', jtFl (τ' 0) X c p → jcF4 k τ τ' → kk (nI 0) τ' := by
          intro c p e
          refine hf c p ?_
          show jwB (jwNam X nm' 0 (jz w.1 0) (i + 2)) _ = _
          rw [hr]
          exact e
        refine sp_Rd_num (i := i + 3) (X := X) (by omega) t1 (by omega) (by omega) (fun v hv2 v9 τ3 u1 u2 => ?_) (fun c p hv2 τ3 u1 u2 => ?_)
        · rw [hv2] at h2
          have ek3 : (τ3 k).1 = (τ k).1 := by rw [u2.1 k hk, ek2, r3]
          have el3 : (τ3 k).2 = (τ1 k).2 := by rw [u2.1 k hk, ek2]
          refine ⟨fun _ => ?_, fun z => absurd (nI_pos' (by omega)) z⟩
          simp (disch := first | omega | decide) only [jaU_eq, jaU_U, nI_add, pk_mul, jaIx_nI, vp_inT, true_and, and_true, ↓jaO0, ↓jaO1, nI_z, nI_z2, nI_z3, nI_z4, nI_z5, nI_lt', nI_le', nI_eq', jaUI_at, jaPt_eq, jaPt_ne, jaUI_o, jaUI_2, jaUL_at, jaUL_o, jaUL_1, jaB_z, jaB_1, ↓jaB_01, Classical.not_not, and_self, true_or, or_true, nI_11, Nat.reduceEqDiff, Nat.reduceAdd, Nat.reduceMul, Nat.add_zero, Nat.zero_add, Nat.mul_zero, not_true_eq_false, not_false_eq_true, false_implies, true_implies, ek3, e0]
          refine h2 _ _ rfl _ ?_ (by rw [jaU_ne (Ne.symm hk)]; exact u1) (f1.c.trans (r4.trans (t2.c.trans (u2.c.trans (jcFr.k hk)))))
          rw [jaU_eq]
          have ne : ∀ j, j ≠ 1 → j ≠ 5 + jz w.1 1 → j ≠ 15 + jz w.1 1 → jaPt (jaPt (jaPt w.1 (5 + jz w.1 1) (nI r)) (15 + jz w.1 1) (nI v)) 1 (nI (jz w.1 1 + 1)) j = w.1 j := fun j x1 x2 x3 => by rw [jaPt_ne x1, jaPt_ne x3, jaPt_ne x2]
          have n5 : jaPt (jaPt (jaPt w.1 (5 + jz w.1 1) (nI r)) (15 + jz w.1 1) (nI v)) 1 (nI (jz w.1 1 + 1)) (5 + jz w.1 1) = nI r := by rw [jaPt_ne (by omega), jaPt_ne (by omega), jaPt_eq]
          have n15 : jaPt (jaPt (jaPt w.1 (5 + jz w.1 1) (nI r)) (15 + jz w.1 1) (nI v)) 1 (nI (jz w.1 1 + 1)) (15 + jz w.1 1) = nI v := by rw [jaPt_ne (by omega), jaPt_eq]
          have n1 : jaPt (jaPt (jaPt w.1 (5 + jz w.1 1) (nI r)) (15 + jz w.1 1) (nI v)) 1 (nI (jz w.1 1 + 1)) 1 = nI (jz w.1 1 + 1) := jaPt_eq
          generalize jaPt (jaPt (jaPt w.1 (5 + jz w.1 1) (nI r)) (15 + jz w.1 1) (nI v)) 1 (nI (jz w.1 1 + 1)) = h' at *
          have z1 : jz h' 1 = jz w.1 1 + 1 := by rw [jz, n1, jaIx_nI (by omega)]
          have z2 : jz h' 2 = jz w.1 2 := jz_c (ne 2 (by omega) (by omega) (by omega))
          refine ⟨⟨?_, ?_, ?_, ?_, ?_⟩, fun q hq => ?_, fun c hc => ?_, fun c hc => ?_, fun j hj => ?_⟩
          · show _ = h' 0
            rw [ne 0 (by omega) (by omega) (by omega)]
            simp (disch := first | omega | decide) only [jaU_eq, jaU_U, nI_add, pk_mul, jaIx_nI, vp_inT, true_and, and_true, ↓jaO0, ↓jaO1, nI_z, nI_z2, nI_z3, nI_z4, nI_z5, nI_lt', nI_le', nI_eq', jaUI_at, jaPt_eq, jaPt_ne, jaUI_o, jaUI_2, jaUL_at, jaUL_o, jaUL_1, jaB_z, jaB_1, ↓jaB_01, Classical.not_not, and_self, true_or, or_true, nI_11, Nat.reduceEqDiff, Nat.reduceAdd, Nat.reduceMul, Nat.add_zero, Nat.zero_add, Nat.mul_zero, not_true_eq_false, not_false_eq_true, false_implies, true_implies, ek3, a0]
          · show _ = h' 1
            rw [n1]
            simp (disch := first | omega | decide) only [jaU_eq, jaU_U, nI_add, pk_mul, jaIx_nI, vp_inT, true_and, and_true, ↓jaO0, ↓jaO1, nI_z, nI_z2, nI_z3, nI_z4, nI_z5, nI_lt', nI_le', nI_eq', jaUI_at, jaPt_eq, jaPt_ne, jaUI_o, jaUI_2, jaUL_at, jaUL_o, jaUL_1, jaB_z, jaB_1, ↓jaB_01, Classical.not_not, and_self, true_or, or_true, nI_11, Nat.reduceEqDiff, Nat.reduceAdd, Nat.reduceMul, Nat.add_zero, Nat.zero_add, Nat.mul_zero, not_true_eq_false, not_false_eq_true, false_implies, true_implies]
          · show _ = h' 2
            rw [ne 2 (by omega) (by omega) (by omega)]
            simp (disch := first | omega | decide) only [jaU_eq, jaU_U, nI_add, pk_mul, jaIx_nI, vp_inT, true_and, and_true, ↓jaO0, ↓jaO1, nI_z, nI_z2, nI_z3, nI_z4, nI_z5, nI_lt', nI_le', nI_eq', jaUI_at, jaPt_eq, jaPt_ne, jaUI_o, jaUI_2, jaUL_at, jaUL_o, jaUL_1, jaB_z, jaB_1, ↓jaB_01, Classical.not_not, and_self, true_or, or_true, nI_11, Nat.reduceEqDiff, Nat.reduceAdd, Nat.reduceMul, Nat.add_zero, Nat.zero_add, Nat.mul_zero, not_true_eq_false, not_false_eq_true, false_implies, true_implies, ek3, a2]
          · show _ = jaIf1 _ (h' 3) _
            rw [ne 3 (by omega) (by omega) (by omega)]
            simp (disch := first | omega | decide) only [jaU_eq, jaU_U, nI_add, pk_mul, jaIx_nI, vp_inT, true_and, and_true, ↓jaO0, ↓jaO1, nI_z, nI_z2, nI_z3, nI_z4, nI_z5, nI_lt', nI_le', nI_eq', jaUI_at, jaPt_eq, jaPt_ne, jaUI_o, jaUI_2, jaUL_at, jaUL_o, jaUL_1, jaB_z, jaB_1, ↓jaB_01, Classical.not_not, and_self, true_or, or_true, nI_11, Nat.reduceEqDiff, Nat.reduceAdd, Nat.reduceMul, Nat.add_zero, Nat.zero_add, Nat.mul_zero, not_true_eq_false, not_false_eq_true, false_implies, true_implies, ek3, a3]
          · show _ = jaIf1 _ (h' 4) _
            rw [ne 4 (by omega) (by omega) (by omega)]
            simp (disch := first | omega | decide) only [jaU_eq, jaU_U, nI_add, pk_mul, jaIx_nI, vp_inT, true_and, and_true, ↓jaO0, ↓jaO1, nI_z, nI_z2, nI_z3, nI_z4, nI_z5, nI_lt', nI_le', nI_eq', jaUI_at, jaPt_eq, jaPt_ne, jaUI_o, jaUI_2, jaUL_at, jaUL_o, jaUL_1, jaB_z, jaB_1, ↓jaB_01, Classical.not_not, and_self, true_or, or_true, nI_11, Nat.reduceEqDiff, Nat.reduceAdd, Nat.reduceMul, Nat.add_zero, Nat.zero_add, Nat.mul_zero, not_true_eq_false, not_false_eq_true, false_implies, true_implies, ek3, a4]
          · have hq : q < jz h' 1 := hq
            rw [z1] at hq
            show _ = h' (5 + q) ∧ _ = h' (15 + q)
            by_cases y : q = jz w.1 1
            · rw [y, n5, n15]
              simp (disch := first | omega | decide) only [jaU_eq, jaU_U, nI_add, pk_mul, jaIx_nI, vp_inT, true_and, and_true, ↓jaO0, ↓jaO1, nI_z, nI_z2, nI_z3, nI_z4, nI_z5, nI_lt', nI_le', nI_eq', jaUI_at, jaPt_eq, jaPt_ne, jaUI_o, jaUI_2, jaUL_at, jaUL_o, jaUL_1, jaB_z, jaB_1, ↓jaB_01, Classical.not_not, and_self, true_or, or_true, nI_11, Nat.reduceEqDiff, Nat.reduceAdd, Nat.reduceMul, Nat.add_zero, Nat.zero_add, Nat.mul_zero, not_true_eq_false, not_false_eq_true, false_implies, true_implies]
            · rw [ne _ (by omega) (by omega) (by omega), ne _ (by omega) (by omega) (by omega)]
              simp (disch := first | omega | decide) only [jaU_eq, jaU_U, nI_add, pk_mul, jaIx_nI, vp_inT, true_and, and_true, ↓jaO0, ↓jaO1, nI_z, nI_z2, nI_z3, nI_z4, nI_z5, nI_lt', nI_le', nI_eq', jaUI_at, jaPt_eq, jaPt_ne, jaUI_o, jaUI_2, jaUL_at, jaUL_o, jaUL_1, jaB_z, jaB_1, ↓jaB_01, Classical.not_not, and_self, true_or, or_true, nI_11, Nat.reduceEqDiff, Nat.reduceAdd, Nat.reduceMul, Nat.add_zero, Nat.zero_add, Nat.mul_zero, not_true_eq_false, not_false_eq_true, false_implies, true_implies, ek3]
              exact b1 q (by omega)
          · have hc : c < jz h' 2 := hc
            rw [z2] at hc
            show _ = h' (25 + c) ∧ _ = h' (28 + c)
            rw [ne _ (by omega) (by omega) (by omega), ne _ (by omega) (by omega) (by omega)]
            simp (disch := first | omega | decide) only [jaU_eq, jaU_U, nI_add, pk_mul, jaIx_nI, vp_inT, true_and, and_true, ↓jaO0, ↓jaO1, nI_z, nI_z2, nI_z3, nI_z4, nI_z5, nI_lt', nI_le', nI_eq', jaUI_at, jaPt_eq, jaPt_ne, jaUI_o, jaUI_2, jaUL_at, jaUL_o, jaUL_1, jaB_z, jaB_1, ↓jaB_01, Classical.not_not, and_self, true_or, or_true, nI_11, Nat.reduceEqDiff, Nat.reduceAdd, Nat.reduceMul, Nat.add_zero, Nat.zero_add, Nat.mul_zero, not_true_eq_false, not_false_eq_true, false_implies, true_implies, ek3]
            exact b2 c hc
          · simp (disch := first | omega | decide) only [jaU_eq, jaU_U, nI_add, pk_mul, jaIx_nI, vp_inT, true_and, and_true, ↓jaO0, ↓jaO1, nI_z, nI_z2, nI_z3, nI_z4, nI_z5, nI_lt', nI_le', nI_eq', jaUI_at, jaPt_eq, jaPt_ne, jaUI_o, jaUI_2, jaUL_at, jaUL_o, jaUL_1, jaB_z, jaB_1, ↓jaB_01, Classical.not_not, and_self, true_or, or_true, nI_11, Nat.reduceEqDiff, Nat.reduceAdd, Nat.reduceMul, Nat.add_zero, Nat.zero_add, Nat.mul_zero, not_true_eq_false, not_false_eq_true, false_implies, true_implies, ek3]
            exact b3 c hc
          · simp only [jaUI_2]
            rw [el3]
            exact (r2 j hj).1
        · rw [hv2] at hf2
          refine ⟨fun z => absurd (show (0 : Int32) ≤ -1 from z) (by decide), fun _ => hf2 c p rfl _ u1 ⟨f1.c.trans (r4.trans (t2.c.trans u2.c)), by rw [u2.1 k hk, ek2, r3]⟩⟩
      · refine ⟨fun z => absurd (show (0 : Int32) ≤ -1 from z) (by decide), fun _ => ⟨fun z => absurd z (by decide), fun _ => hf c p ?_ _ t1 ⟨f1.c.trans (r4.trans t2.c), by rw [t2.1 k hk, r3]⟩⟩⟩
        show jwB (jwNam X nm' 0 (jz w.1 0) (i + 2)) _ = _
        rw [hr]
        rfl
    · rw [hv] at hf
      exact ⟨fun z => absurd rfl z, fun _ => hf c p rfl _ r1 ((f1.c4 hk).trans r4)⟩
  · rw [jaIf1_t (by omega)] at hf
    exact sp_Rd_fail (by omega) hR (fun S' s1 s2 s3 => ⟨Or.inl rfl, hf 4 i rfl _ (by rw [jaU_eq]; exact s3) ((jtF2.u s1 s2).c4 hk)⟩)
end
