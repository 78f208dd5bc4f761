section
/-! the reference: a LINE of a WORLD -/
def jmW (S : jaS) (w : jwS) : Prop := (∀ j, j < 31 → S.1 73 0 j = w.1 j) ∧ S.1 70 0 23 = nI (w.2.2.1 + 2 * w.2.2.2) ∧ jmM S w.1 w.2.1
def jmFw (S S' : jaS) : Prop := jaFr [73, 78] (23 :: jmG) S S' ∧ ∀ j, j < 16 → S'.2 78 0 j = S.2 78 0 j
theorem jmFw.rfl {S : jaS} : jmFw S S := ⟨jaFr.rfl, fun _ _ => Eq.refl _⟩
theorem jmFw.trans {S S' S'' : jaS} (h : jmFw S S') (h' : jmFw S' S'') : jmFw S S'' := ⟨h.1.trans h'.1, fun j hj => (h'.2 j hj).trans (h.2 j hj)⟩
theorem jmFw.of {A F : List Nat} {S S' : jaS} (h : jaFr A F S S') (hA : ∀ o, o ∈ A → o ∈ [73]) (hF : ∀ o, o ∈ F → o ∈ (23 :: jmG)) : jmFw S S' :=
  ⟨h.mono (fun o ho => List.mem_cons.mpr (Or.inl (List.mem_singleton.mp (hA o ho)))) hF, fun j _ => by rw [h.l 78 (fun z => absurd (List.mem_singleton.mp (hA _ z)) (by decide)) (by decide)]⟩
theorem jmM_c {S S' : jaS} {h h' : jvA} {nm : Nat → Nat} (hm : jmM S h nm) (e : S'.2 78 = S.2 78) (z0 : jz h' 0 = jz h 0) (z1 : jz h' 1 = jz h 1) (z2 : jz h' 2 = jz h 2) : jmM S' h' nm := by
  intro j hj hu
  rw [e]
  unfold jwU at hu
  rw [z0, z1, z2] at hu
  exact hm j hj hu
theorem sp_M_readSite {D : Nat} (hD : 5 ≤ D) {kk : Int32 → jaT → Prop} {σ : jaT} {S : jaS} {X : jtX} {w : jwS} {i : Nat} (hR : jmN S X i) (hc : jmW S w) (hw : jwW w) (h : ∀ w' i', jwSi X w i = .inr (w', i') → ∀ S', jmW S' w' → jmN S' X i' → jmFw S S' → kk (nI 1) (jaU σ 20 S')) (hf : ∀ c p, jwSi X w i = .inl (c, p) → ∀ S', jmFl S' X c p → jmFw S S' → kk (nI 0) (jaU σ 20 S')) : jaDe D jy_M_readSite [jaMo] (jaU σ 20 S) (jaKi kk) := by
  obtain ⟨D, rfl, hD⟩ := jaSuc hD
  obtain ⟨r, o, m⟩ := hc
  obtain ⟨w0, w1, w2, -, -, -, -, w7, -⟩ := hw
  have e0 : S.1 73 0 0 = nI (jz w.1 0) := (r 0 (by decide)).trans w0.1
  have e1 : S.1 73 0 1 = nI (jz w.1 1) := (r 1 (by decide)).trans w1.1
  have e2 : S.1 73 0 2 = nI (jz w.1 2) := (r 2 (by decide)).trans w2.1
  unfold jwSi at h hf
  apply js_M_readSite
  simp (disch := first | omega | decide) only [jaU_eq, jaU_U, nI_add, pk_mul, jaIx_nI, vp_inT, true_and, and_true, ↓jaO0, ↓jaO1, nI_z, nI_z2, nI_z3, nI_z4, nI_z5, nI_lt', nI_le', nI_eq', jaUI_at, jaPt_eq, jaPt_ne, jaUI_o, jaUI_2, jaUL_at, jaUL_o, jaUL_1, jaB_z, jaB_1, ↓jaB_01, Classical.not_not, and_self, true_or, or_true, nI_11, Nat.reduceEqDiff, Nat.reduceAdd, Nat.reduceMul, Nat.add_zero, Nat.zero_add, Nat.mul_zero, not_true_eq_false, not_false_eq_true, false_implies, true_implies, e0]
  refine ⟨fun q => ?_, fun q => ?_⟩
  · rw [jaIf1_f q] at h hf
    refine sp_M_next' (by omega) hR (fun S1 a1 f1 => ?_)
    refine sp_M_fresh (i := i + 1) (slot := jz w.1 0) (h0 := w.1) (nm := w.2.1) (by omega) a1 (by rw [f1.s 73 (by decide) (by decide)]; exact ⟨e0, e1, e2⟩) w0.2 w1.2 w2.2 (jmM_c m (f1.l 78 (by decide) (by decide)) rfl rfl rfl) (fun j hj => (w7 j hj).1) (by omega) (fun nm' e S2 a2 n1 n2 f2 => ?_) (fun c p e S2 a2 f2 => ?_)
    · rw [jwB_i e] at h
      refine ⟨fun _ => ?_, fun z => absurd z (by decide)⟩
      have g73 : S2.1 73 = S.1 73 := (f2.s 73 (by decide) (by decide)).trans (f1.s 73 (by decide) (by decide))
      simp (disch := first | omega | decide) only [jaU_eq, jaU_U, nI_add, pk_mul, jaIx_nI, vp_inT, true_and, and_true, ↓jaO0, ↓jaO1, nI_z, nI_z2, nI_z3, nI_z4, nI_z5, nI_lt', nI_le', nI_eq', jaUI_at, jaPt_eq, jaPt_ne, jaUI_o, jaUI_2, jaUL_at, jaUL_o, jaUL_1, jaB_z, jaB_1, ↓jaB_01, Classical.not_not, and_self, true_or, or_true, nI_11, Nat.reduceEqDiff, Nat.reduceAdd, Nat.reduceMul, Nat.add_zero, Nat.zero_add, Nat.mul_zero, not_true_eq_false, not_false_eq_true, false_implies, true_implies, g73, e0]
      have f3 : jaFr [73] [] S2 (jaUI S2 73 0 0 (nI (jz w.1 0 + 1))) := jaFr.rfl.ui (by decide) (by decide)
      have hnm := (jwNew_r e).2.1
      refine h _ _ rfl _ ⟨fun j hj => ?_, ?_, fun j hj hu => ?_⟩ (a2.f f3 (by decide) (by decide) (fun _ _ => List.not_mem_nil)) ⟨(f1.mono (by decide) (by decide)).trans ((f2.mono (by decide) (by decide)).trans (f3.mono (by decide) (by decide))), fun j hj => ?_⟩
      · rw [jaUI_at, g73]
        by_cases y : j = 0
        · rw [y, jaPt_eq]
          exact (jaPt_eq (f := w.1) (j := 0)).symm
        · rw [jaPt_ne y, r j hj]
          exact (jaPt_ne y).symm
      · rw [f3.f 23 List.not_mem_nil, f2.f 23 (by decide), f1.f 23 (by decide)]
        exact o
      · rw [jaUI_2]
        by_cases y : j = jz w.1 0
        · rw [y]
          exact n1
        · have e' : nm' j = w.2.1 j := by rw [hnm]; exact if_neg y
          show _ = Int64.ofNat (nm' j)
          rw [n2 _ (by omega), f1.l 78 (by decide) (by decide), e']
          refine m j hj ?_
          have z0 : jz (jaPt w.1 0 (nI (jz w.1 0 + 1))) 0 = jz w.1 0 + 1 := by rw [jz, jaPt_eq, jaIx_nI (by omega)]
          have z1 : jz (jaPt w.1 0 (nI (jz w.1 0 + 1))) 1 = jz w.1 1 := jz_c (jaPt_ne (by decide))
          have z2 : jz (jaPt w.1 0 (nI (jz w.1 0 + 1))) 2 = jz w.1 2 := jz_c (jaPt_ne (by decide))
          have hu : jwU (jaPt w.1 0 (nI (jz w.1 0 + 1))) j := hu
          unfold jwU at hu ⊢
          rw [z0, z1, z2] at hu
          omega
      · rw [jaUI_2, n2 _ (by omega), f1.l 78 (by decide) (by decide)]
    · rw [jwB_l e] at hf
      refine ⟨fun z => absurd rfl z, fun _ => ?_⟩
      exact hf c p rfl S2 a2 ((jmFw.of f1 (by decide) (by decide)).trans (jmFw.of f2 (by decide) (by decide)))
  · rw [jaIf1_t q] at hf
    exact sp_M_bad (by omega) hR (fun S' a f => ⟨Or.inl rfl, hf 4 i rfl S' a (jmFw.of f (by decide) (by decide))⟩)
set_option maxHeartbeats 1000000 in
theorem sp_M_readKey {D : Nat} (hD : 6 ≤ D) {kk : Int32 → jaT → Prop} {σ : jaT} {S : jaS} {X : jtX} {w : jwS} {i : Nat} (hR : jmN S X i) (hc : jmW S w) (hw : jwW w) (h : ∀ w' i', jwKe X w i = .inr (w', i') → ∀ S', jmW S' w' → jmN S' X i' → jmFw S S' → kk (nI 1) (jaU σ 20 S')) (hf : ∀ c p, jwKe X w i = .inl (c, p) → ∀ S', jmFl S' X c p → jmFw S S' → kk (nI 0) (jaU σ 20 S')) : jaDe D jy_M_readKey [jaMo] (jaU σ 20 S) (jaKi kk) := by
  obtain ⟨D, rfl, hD⟩ := jaSuc hD
  obtain ⟨r, o, m⟩ := hc
  obtain ⟨w0, w1, w2, -, -, -, -, w7, -⟩ := hw
  have e0 : S.1 73 0 0 = nI (jz w.1 0) := (r 0 (by decide)).trans w0.1
  have e1 : S.1 73 0 1 = nI (jz w.1 1) := (r 1 (by decide)).trans w1.1
  have e2 : S.1 73 0 2 = nI (jz w.1 2) := (r 2 (by decide)).trans w2.1
  unfold jwKe at h hf
  apply js_M_readKey
  simp (disch := first | omega | decide) only [jaU_eq, jaU_U, nI_add, pk_mul, jaIx_nI, vp_inT, true_and, and_true, ↓jaO0, ↓jaO1, nI_z, nI_z2, nI_z3, nI_z4, nI_z5, nI_lt', nI_le', nI_eq', jaUI_at, jaPt_eq, jaPt_ne, jaUI_o, jaUI_2, jaUL_at, jaUL_o, jaUL_1, jaB_z, jaB_1, ↓jaB_01, Classical.not_not, and_self, true_or, or_true, nI_11, Nat.reduceEqDiff, Nat.reduceAdd, Nat.reduceMul, Nat.add_zero, Nat.zero_add, Nat.mul_zero, not_true_eq_false, not_false_eq_true, false_implies, true_implies, e1]
  refine ⟨fun q => ?_, fun q => ?_⟩
  · rw [jaIf1_f q] at h hf
    refine sp_M_next' (by omega) hR (fun S1 a1 f1 => ?_)
    rw [show 19 + jz w.1 1 = 16 + (3 + jz w.1 1) by omega]
    refine sp_M_fresh (i := i + 1) (slot := 3 + jz w.1 1) (h0 := w.1) (nm := w.2.1) (by omega) a1 (by rw [f1.s 73 (by decide) (by decide)]; exact ⟨e0, e1, e2⟩) w0.2 w1.2 w2.2 (jmM_c m (f1.l 78 (by decide) (by decide)) rfl rfl rfl) (fun j hj => (w7 j hj).1) (by omega) (fun nm' e S2 a2 n1 n2 f2 => ?_) (fun c p e S2 a2 f2 => ?_)
    · rw [jwB_i e] at h hf
      refine ⟨fun z => absurd z (by decide), fun _ => ?_⟩
      have g73 : S2.1 73 = S.1 73 := (f2.s 73 (by decide) (by decide)).trans (f1.s 73 (by decide) (by decide))
      have hnm := (jwNew_r e).2.1
      have n78 : ∀ j, j ≠ 16 + (3 + jz w.1 1) → S2.2 78 0 j = S.2 78 0 j := fun j hj => (n2 j hj).trans (by rw [f1.l 78 (by decide) (by decide)])
      have hne : ∀ j, j ≠ 3 + jz w.1 1 → nm' j = w.2.1 j := fun j hj => by rw [hnm]; exact if_neg hj
      have F2 : jmFw S S2 := ⟨(f1.mono (by decide) (by decide)).trans (f2.mono (by decide) (by decide)), fun j hj => n78 j (by omega)⟩
      simp (disch := first | omega | decide) only [jaU_eq, jaU_U, nI_add, pk_mul, jaIx_nI, vp_inT, true_and, and_true, ↓jaO0, ↓jaO1, nI_z, nI_z2, nI_z3, nI_z4, nI_z5, nI_lt', nI_le', nI_eq', jaUI_at, jaPt_eq, jaPt_ne, jaUI_o, jaUI_2, jaUL_at, jaUL_o, jaUL_1, jaB_z, jaB_1, ↓jaB_01, Classical.not_not, and_self, true_or, or_true, nI_11, Nat.reduceEqDiff, Nat.reduceAdd, Nat.reduceMul, Nat.add_zero, Nat.zero_add, Nat.mul_zero, not_true_eq_false, not_false_eq_true, false_implies, true_implies, g73, e0]
      refine sp_M_nam (nm := nm') (f0 := 0) (i := i + 2) (by omega) a2 (fun r' hr => ?_) (by omega) (fun v e3 S3 a3 b3 f3 => ?_) (fun c p e3 S3 a3 f3 => ?_)
      · rw [n78 _ (by omega), Nat.zero_add, hne _ (by omega)]
        exact ⟨m r' (by omega) (Or.inl hr), (w7 r' (by omega)).1⟩
      · have h2 : ∀ w' i', (jwB (jwNum X 0 999 (i + 3)) fun u => (.inr ((jaPt (jaPt (jaPt w.1 (5 + jz w.1 1) (nI v)) (15 + jz w.1 1) (nI u)) 1 (nI (jz w.1 1 + 1)), nm', w.2.2), i + 4) : Sum jwF (jwS × Nat))) = .inr (w', i') → ∀ S', jmW S' w' → jmN S' X i' → jmFw S S' → kk (nI 1) (jaU σ 20 S') := fun w' i' x => h w' i' (by rw [jwB_i e3]; exact x)
        have hf2 : ∀ c p, (jwB (jwNum X 0 999 (i + 3)) fun u => (.inr ((jaPt (jaPt (jaPt w.1 (5 + jz w.1 1) (nI v)) (15 + jz w.1 1) (nI u)) 1 (nI (jz w.1 1 + 1)), nm', w.2.2), i + 4) : Sum jwF (jwS × Nat))) = .inl (c, p) → ∀ S', jmFl S' X c p → jmFw S S' → kk (nI 0) (jaU σ 20 S') := fun c p x => hf c p (by rw [jwB_i e3]; exact x)
        refine ⟨fun _ => ?_, fun z => absurd z (by decide)⟩
        have g3 : S3.1 73 = S.1 73 := (f3.s 73 (by decide) (by decide)).trans g73
        simp (disch := first | omega | decide) only [jaU_eq, jaU_U, nI_add, pk_mul, jaIx_nI, vp_inT, true_and, and_true, ↓jaO0, ↓jaO1, nI_z, nI_z2, nI_z3, nI_z4, nI_z5, nI_lt', nI_le', nI_eq', jaUI_at, jaPt_eq, jaPt_ne, jaUI_o, jaUI_2, jaUL_at, jaUL_o, jaUL_1, jaB_z, jaB_1, ↓jaB_01, Classical.not_not, and_self, true_or, or_true, nI_11, Nat.reduceEqDiff, Nat.reduceAdd, Nat.reduceMul, Nat.add_zero, Nat.zero_add, Nat.mul_zero, not_true_eq_false, not_false_eq_true, false_implies, true_implies, g3, e1, b3]
        have f4 : jaFr [73] [] S3 (jaUI S3 73 0 (5 + jz w.1 1) (nI v)) := jaFr.rfl.ui (by decide) (by decide)
        have F4 : jmFw S (jaUI S3 73 0 (5 + jz w.1 1) (nI v)) := F2.trans ((jmFw.of f3 (by decide) (by decide)).trans (jmFw.of f4 (by decide) (by decide)))
        refine sp_M_puts (i := i + 3) (by omega) (a3.f f4 (by decide) (by decide) (fun _ _ => List.not_mem_nil)) (by omega) (by omega) (by omega) (fun u e5 u9 S5 a5 b5 f5 => ?_) (fun c p e5 S5 a5 f5 => ?_)
        · rw [jwB_i e5] at h2
          refine ⟨fun _ => ?_, fun z => absurd z (by decide)⟩
          rw [jaUI_at, g3] at b5
          have c1 : S5.1 73 0 1 = nI (jz w.1 1) := by rw [b5, jaPt_ne (by omega), jaPt_ne (by omega), e1]
          simp (disch := first | omega | decide) only [jaU_eq, jaU_U, nI_add, pk_mul, jaIx_nI, vp_inT, true_and, and_true, ↓jaO0, ↓jaO1, nI_z, nI_z2, nI_z3, nI_z4, nI_z5, nI_lt', nI_le', nI_eq', jaUI_at, jaPt_eq, jaPt_ne, jaUI_o, jaUI_2, jaUL_at, jaUL_o, jaUL_1, jaB_z, jaB_1, ↓jaB_01, Classical.not_not, and_self, true_or, or_true, nI_11, Nat.reduceEqDiff, Nat.reduceAdd, Nat.reduceMul, Nat.add_zero, Nat.zero_add, Nat.mul_zero, not_true_eq_false, not_false_eq_true, false_implies, true_implies, c1]
          have f6 : jaFr [73] [] S5 (jaUI S5 73 0 1 (nI (jz w.1 1 + 1))) := jaFr.rfl.ui (by decide) (by decide)
          have F5 : jmFw S S5 := F4.trans (jmFw.of f5 (by decide) (by decide))
          have l5 : S5.2 78 = S2.2 78 := (f5.l 78 (by decide) (by decide)).trans ((f4.l 78 (by decide) (by decide)).trans (f3.l 78 (by decide) (by decide)))
          refine h2 _ _ rfl _ ⟨fun j hj => ?_, ?_, fun j hj hu => ?_⟩ (a5.f f6 (by decide) (by decide) (fun _ _ => List.not_mem_nil)) (F5.trans (jmFw.of f6 (by decide) (by decide)))
          · show _ = jaPt (jaPt (jaPt w.1 (5 + jz w.1 1) (nI v)) (15 + jz w.1 1) (nI u)) 1 (nI (jz w.1 1 + 1)) j
            rw [jaUI_at, b5]
            unfold jaPt
            rw [r j hj]
          · rw [f6.f 23 List.not_mem_nil, f5.f 23 (by decide), f4.f 23 List.not_mem_nil, f3.f 23 (by decide), f2.f 23 (by decide), f1.f 23 (by decide)]
            exact o
          · rw [jaUI_2, l5]
            show _ = Int64.ofNat (nm' j)
            by_cases y : j = 3 + jz w.1 1
            · rw [y]
              exact n1
            · rw [n78 _ (by omega), hne _ y]
              refine m j hj ?_
              have hu : jwU (jaPt (jaPt (jaPt w.1 (5 + jz w.1 1) (nI v)) (15 + jz w.1 1) (nI u)) 1 (nI (jz w.1 1 + 1))) j := hu
              have ne : ∀ j, j ≠ 1 → j ≠ 5 + jz w.1 1 → j ≠ 15 + jz w.1 1 → jaPt (jaPt (jaPt w.1 (5 + jz w.1 1) (nI v)) (15 + jz w.1 1) (nI u)) 1 (nI (jz w.1 1 + 1)) j = w.1 j := fun j x1 x2 x3 => by rw [jaPt_ne x1, jaPt_ne x3, jaPt_ne x2]
              have z1 : jz (jaPt (jaPt (jaPt w.1 (5 + jz w.1 1) (nI v)) (15 + jz w.1 1) (nI u)) 1 (nI (jz w.1 1 + 1))) 1 = jz w.1 1 + 1 := by rw [jz, jaPt_eq, jaIx_nI (by omega)]
              unfold jwU at hu ⊢
              rw [z1, jz_c (ne 0 (by omega) (by omega) (by omega)), jz_c (ne 2 (by omega) (by omega) (by omega))] at hu
              omega
        · rw [jwB_l e5] at hf2
          exact ⟨fun z => absurd rfl z, fun _ => hf2 c p rfl S5 a5 (F4.trans (jmFw.of f5 (by decide) (by decide)))⟩
      · refine ⟨fun z => absurd rfl z, fun _ => ?_⟩
        exact hf c p (jwB_l e3) S3 a3 (F2.trans (jmFw.of f3 (by decide) (by decide)))
    · rw [jwB_l e] at hf
      refine ⟨fun _ => ?_, fun z => absurd rfl z⟩
      exact hf c p rfl S2 a2 ((jmFw.of f1 (by decide) (by decide)).trans (jmFw.of f2 (by decide) (by decide)))
  · rw [jaIf1_t q] at hf
    exact sp_M_bad (by omega) hR (fun S' a f => ⟨Or.inl rfl, hf 4 i rfl S' a (jmFw.of f (by decide) (by decide))⟩)
end
