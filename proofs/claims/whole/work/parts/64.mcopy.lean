section
/-! the reference: a COPY told -/
set_option maxHeartbeats 1000000 in
theorem sp_M_readCopy {D : Nat} (hD : 6 ≤ D) {kk : Int32 → jaT → Prop} {σ : jaT} {S : jaS} {X : jtX} {w : jwS} {i : Nat} (hR : jmN S X i) (hc : jmW S w) (hw : jwW w) (h : ∀ w' i', jwCo X w i = .inr (w', i') → ∀ S', jmW S' w' → jmN S' X i' → jmFw S S' → kk (nI 1) (jaU σ 20 S')) (hf : ∀ c p, jwCo X w i = .inl (c, p) → ∀ S', jmFl S' X c p → jmFw S S' → kk (nI 0) (jaU σ 20 S')) : jaDe D jy_M_readCopy [jaMo] (jaU σ 20 S) (jaKi kk) := by
  obtain ⟨D, rfl, hD⟩ := jaSuc hD
  obtain ⟨r, o, m⟩ := hc
  obtain ⟨w0, w1, w2, -, -, -, -, w7, -⟩ := hw
  have e0 : S.1 73 0 0 = nI (jz w.1 0) := (r 0 (by decide)).trans w0.1
  have e1 : S.1 73 0 1 = nI (jz w.1 1) := (r 1 (by decide)).trans w1.1
  have e2 : S.1 73 0 2 = nI (jz w.1 2) := (r 2 (by decide)).trans w2.1
  unfold jwCo at h hf
  apply js_M_readCopy
  simp (disch := first | omega | decide) only [jaU_eq, jaU_U, nI_add, pk_mul, jaIx_nI, vp_inT, true_and, and_true, ↓jaO0, ↓jaO1, nI_z, nI_z2, nI_z3, nI_z4, nI_z5, nI_lt', nI_le', nI_eq', jaUI_at, jaPt_eq, jaPt_ne, jaUI_o, jaUI_2, jaUL_at, jaUL_o, jaUL_1, jaB_z, jaB_1, ↓jaB_01, Classical.not_not, and_self, true_or, or_true, nI_11, Nat.reduceEqDiff, Nat.reduceAdd, Nat.reduceMul, Nat.add_zero, Nat.zero_add, Nat.mul_zero, not_true_eq_false, not_false_eq_true, false_implies, true_implies, e2]
  refine ⟨fun q => ?_, fun q => ?_⟩
  · rw [jaIf1_f q] at h hf
    refine sp_M_next' (by omega) hR (fun S1 a1 f1 => ?_)
    rw [show 29 + jz w.1 2 = 16 + (13 + jz w.1 2) by omega]
    refine sp_M_fresh (i := i + 1) (slot := 13 + jz w.1 2) (h0 := w.1) (nm := w.2.1) (by omega) a1 (by rw [f1.s 73 (by decide) (by decide)]; exact ⟨e0, e1, e2⟩) w0.2 w1.2 w2.2 (jmM_c m (f1.l 78 (by decide) (by decide)) rfl rfl rfl) (fun j hj => (w7 j hj).1) (by omega) (fun nm' e S2 a2 n1 n2 f2 => ?_) (fun c p e S2 a2 f2 => ?_)
    · rw [jwB_i e] at h hf
      refine ⟨fun z => absurd z (by decide), fun _ => ?_⟩
      have g73 : S2.1 73 = S.1 73 := (f2.s 73 (by decide) (by decide)).trans (f1.s 73 (by decide) (by decide))
      have hnm := (jwNew_r e).2.1
      have n78 : ∀ j, j ≠ 16 + (13 + jz w.1 2) → S2.2 78 0 j = S.2 78 0 j := fun j hj => (n2 j hj).trans (by rw [f1.l 78 (by decide) (by decide)])
      have hne : ∀ j, j ≠ 13 + jz w.1 2 → nm' j = w.2.1 j := fun j hj => by rw [hnm]; exact if_neg hj
      have F2 : jmFw S S2 := ⟨(f1.mono (by decide) (by decide)).trans (f2.mono (by decide) (by decide)), fun j hj => n78 j (by omega)⟩
      refine sp_M_puts (i := i + 2) (by omega) a2 (by omega) (by omega) (by omega) (fun v e3 v9 S3 a3 b3 f3 => ?_) (fun c p e3 S3 a3 f3 => ?_)
      · have h2 : ∀ w' i', (jaIf1 (jtK X (i + 3) = 104 ∨ jtK X (i + 3) = 103) (.inr ((jaPt (jaPt (jaPt w.1 (25 + jz w.1 2) (nI v)) (28 + jz w.1 2) (nI (jaBn (jtK X (i + 3) = 104)))) 2 (nI (jz w.1 2 + 1)), nm', w.2.2), i + 4)) (.inl (1, i + 3)) : Sum jwF (jwS × Nat)) = .inr (w', i') → ∀ S', jmW S' w' → jmN S' X i' → jmFw S S' → kk (nI 1) (jaU σ 20 S') := fun w' i' x => h w' i' (by rw [jwB_i e3]; exact x)
        have hf2 : ∀ c p, (jaIf1 (jtK X (i + 3) = 104 ∨ jtK X (i + 3) = 103) (.inr ((jaPt (jaPt (jaPt w.1 (25 + jz w.1 2) (nI v)) (28 + jz w.1 2) (nI (jaBn (jtK X (i + 3) = 104)))) 2 (nI (jz w.1 2 + 1)), nm', w.2.2), i + 4)) (.inl (1, i + 3)) : Sum jwF (jwS × Nat)) = .inl (c, p) → ∀ S', jmFl S' X c p → jmFw S S' → kk (nI 0) (jaU σ 20 S') := fun c p x => hf c p (by rw [jwB_i e3]; exact x)
        refine ⟨fun _ => ?_, fun z => absurd z (by decide)⟩
        rw [g73] at b3
        have F3 : jmFw S S3 := F2.trans (jmFw.of f3 (by decide) (by decide))
        -- both ends
        have fin : ∀ b : Nat, nI b = nI (jaBn (jtK X (i + 3) = 104)) → (jtK X (i + 3) = 104 ∨ jtK X (i + 3) = 103) → ∀ S5, jmN S5 X (i + 3 + 1) → jaFr [] [4, 14, 15, 16, 17, 20] (jaUI S3 73 0 (28 + jz w.1 2) (nI b)) S5 → kk (nI 1) (jaU σ 20 (jaUI S5 73 0 2 (nI (jz w.1 2 + 1)))) := by
          intro b hb hK S5 a5 f5
          rw [jaIf1_t hK] at h2
          have f4 : jaFr [73] [] S3 (jaUI S3 73 0 (28 + jz w.1 2) (nI b)) := jaFr.rfl.ui (by decide) (by decide)
          have f6 : jaFr [73] [] S5 (jaUI S5 73 0 2 (nI (jz w.1 2 + 1))) := jaFr.rfl.ui (by decide) (by decide)
          have b5 : S5.1 73 0 = jaPt (jaPt (S.1 73 0) (25 + jz w.1 2) (nI v)) (28 + jz w.1 2) (nI b) := by rw [f5.s 73 (by decide) (by decide), jaUI_at, b3]
          have l5 : S5.2 78 = S2.2 78 := (f5.l 78 (by decide) (by decide)).trans ((f4.l 78 (by decide) (by decide)).trans (f3.l 78 (by decide) (by decide)))
          refine h2 _ _ rfl _ ⟨fun j hj => ?_, ?_, fun j hj hu => ?_⟩ (a5.f f6 (by decide) (by decide) (fun _ _ => List.not_mem_nil)) (F3.trans ((jmFw.of f4 (by decide) (by decide)).trans ((jmFw.of f5 (by decide) (by decide)).trans (jmFw.of f6 (by decide) (by decide)))))
          · show _ = jaPt (jaPt (jaPt w.1 (25 + jz w.1 2) (nI v)) (28 + jz w.1 2) (nI (jaBn (jtK X (i + 3) = 104)))) 2 (nI (jz w.1 2 + 1)) j
            rw [jaUI_at, b5, ← hb]
            unfold jaPt
            rw [r j hj]
          · rw [f6.f 23 List.not_mem_nil, f5.f 23 (by decide), f4.f 23 List.not_mem_nil, f3.f 23 (by decide), f2.f 23 (by decide), f1.f 23 (by decide)]
            exact o
          · rw [jaUI_2, l5]
            show _ = Int64.ofNat (nm' j)
            by_cases y : j = 13 + jz w.1 2
            · rw [y]
              exact n1
            · rw [n78 _ (by omega), hne _ y]
              refine m j hj ?_
              have hu : jwU (jaPt (jaPt (jaPt w.1 (25 + jz w.1 2) (nI v)) (28 + jz w.1 2) (nI (jaBn (jtK X (i + 3) = 104)))) 2 (nI (jz w.1 2 + 1))) j := hu
              have ne : ∀ j, j ≠ 2 → j ≠ 25 + jz w.1 2 → j ≠ 28 + jz w.1 2 → jaPt (jaPt (jaPt w.1 (25 + jz w.1 2) (nI v)) (28 + jz w.1 2) (nI (jaBn (jtK X (i + 3) = 104)))) 2 (nI (jz w.1 2 + 1)) j = w.1 j := fun j x1 x2 x3 => by rw [jaPt_ne x1, jaPt_ne x3, jaPt_ne x2]
              have z1 : jz (jaPt (jaPt (jaPt w.1 (25 + jz w.1 2) (nI v)) (28 + jz w.1 2) (nI (jaBn (jtK X (i + 3) = 104)))) 2 (nI (jz w.1 2 + 1))) 2 = jz w.1 2 + 1 := by rw [jz, jaPt_eq, jaIx_nI (by omega)]
              unfold jwU at hu ⊢
              rw [z1, jz_c (ne 0 (by omega) (by omega) (by omega)), jz_c (ne 1 (by omega) (by omega) (by omega))] at hu
              omega
        have c2 : ∀ b S5, jaFr [] [4, 14, 15, 16, 17, 20] (jaUI S3 73 0 (28 + jz w.1 2) b) S5 → S5.1 73 0 2 = nI (jz w.1 2) := fun b S5 f5 => by
          rw [f5.s 73 (by decide) (by decide), jaUI_at, b3, jaPt_ne (by omega), jaPt_ne (by omega), e2]
        have c3 : S3.1 73 0 2 = nI (jz w.1 2) := by rw [b3, jaPt_ne (by omega), e2]
        have f4 : ∀ b, jaFr [73] [] S3 (jaUI S3 73 0 (28 + jz w.1 2) b) := fun b => jaFr.rfl.ui (by decide) (by decide)
        refine sp_M_isWord (n := 4) (by omega) a3 (by decide) (by decide +kernel) ?_
        simp (disch := first | omega | decide) only [jaU_eq, jaU_U, nI_add, pk_mul, jaIx_nI, vp_inT, true_and, and_true, ↓jaO0, ↓jaO1, nI_z, nI_z2, nI_z3, nI_z4, nI_z5, nI_lt', nI_le', nI_eq', jaUI_at, jaPt_eq, jaPt_ne, jaUI_o, jaUI_2, jaUL_at, jaUL_o, jaUL_1, jaB_z, jaB_1, ↓jaB_01, Classical.not_not, and_self, true_or, or_true, nI_11, Nat.reduceEqDiff, Nat.reduceAdd, Nat.reduceMul, Nat.add_zero, Nat.zero_add, Nat.mul_zero, not_true_eq_false, not_false_eq_true, false_implies, true_implies, c3]
        refine ⟨fun z => ?_, fun z => ?_⟩
        · refine ⟨fun z3 => absurd z z3, fun _ => ?_⟩
          refine sp_M_next' (by omega) (a3.f (f4 _) (by decide) (by decide) (fun _ _ => List.not_mem_nil)) (fun S5 a5 f5 => ?_)
          have := fin 1 (by rw [jaBn_t z]) (Or.inl z) S5 a5 f5
          simp (disch := first | omega | decide) only [jaU_eq, jaU_U, nI_add, pk_mul, jaIx_nI, vp_inT, true_and, and_true, ↓jaO0, ↓jaO1, nI_z, nI_z2, nI_z3, nI_z4, nI_z5, nI_lt', nI_le', nI_eq', jaUI_at, jaPt_eq, jaPt_ne, jaUI_o, jaUI_2, jaUL_at, jaUL_o, jaUL_1, jaB_z, jaB_1, ↓jaB_01, Classical.not_not, and_self, true_or, or_true, nI_11, Nat.reduceEqDiff, Nat.reduceAdd, Nat.reduceMul, Nat.add_zero, Nat.zero_add, Nat.mul_zero, not_true_eq_false, not_false_eq_true, false_implies, true_implies, c2 _ S5 f5]
          exact this
        · refine sp_M_isWord (n := 3) (by omega) a3 (by decide) (by decide +kernel) ?_
          simp (disch := first | omega | decide) only [jaU_eq, jaU_U, nI_add, pk_mul, jaIx_nI, vp_inT, true_and, and_true, ↓jaO0, ↓jaO1, nI_z, nI_z2, nI_z3, nI_z4, nI_z5, nI_lt', nI_le', nI_eq', jaUI_at, jaPt_eq, jaPt_ne, jaUI_o, jaUI_2, jaUL_at, jaUL_o, jaUL_1, jaB_z, jaB_1, ↓jaB_01, Classical.not_not, and_self, true_or, or_true, nI_11, Nat.reduceEqDiff, Nat.reduceAdd, Nat.reduceMul, Nat.add_zero, Nat.zero_add, Nat.mul_zero, not_true_eq_false, not_false_eq_true, false_implies, true_implies, c3]
          refine ⟨fun z2 => ?_, fun z2 => ?_⟩
          · refine ⟨fun _ => ?_, fun z3 => absurd z3 z⟩
            refine sp_M_next' (by omega) (a3.f (f4 _) (by decide) (by decide) (fun _ _ => List.not_mem_nil)) (fun S5 a5 f5 => ?_)
            have := fin 0 (by rw [jaBn_f z]) (Or.inr z2) S5 a5 f5
            simp (disch := first | omega | decide) only [jaU_eq, jaU_U, nI_add, pk_mul, jaIx_nI, vp_inT, true_and, and_true, ↓jaO0, ↓jaO1, nI_z, nI_z2, nI_z3, nI_z4, nI_z5, nI_lt', nI_le', nI_eq', jaUI_at, jaPt_eq, jaPt_ne, jaUI_o, jaUI_2, jaUL_at, jaUL_o, jaUL_1, jaB_z, jaB_1, ↓jaB_01, Classical.not_not, and_self, true_or, or_true, nI_11, Nat.reduceEqDiff, Nat.reduceAdd, Nat.reduceMul, Nat.add_zero, Nat.zero_add, Nat.mul_zero, not_true_eq_false, not_false_eq_true, false_implies, true_implies, c2 _ S5 f5]
            exact this
          · rw [jaIf1_f (fun y => y.elim z z2)] at hf2
            exact sp_M_bad (by omega) a3 (fun S' a f => ⟨Or.inl rfl, hf2 1 _ rfl S' a (F3.trans (jmFw.of f (by decide) (by decide)))⟩)
      · refine ⟨fun z => absurd rfl z, fun _ => ?_⟩
        exact hf c p (jwB_l e3) S3 a3 (F2.trans (jmFw.of f3 (by decide) (by decide)))
    · rw [jwB_l e] at hf
      refine ⟨fun _ => ?_, fun z => absurd rfl z⟩
      exact hf c p rfl S2 a2 ((jmFw.of f1 (by decide) (by decide)).trans (jmFw.of f2 (by decide) (by decide)))
  · rw [jaIf1_t q] at hf
    exact sp_M_bad (by omega) hR (fun S' a f => ⟨Or.inl rfl, hf 4 i rfl S' a (jmFw.of f (by decide) (by decide))⟩)
end
