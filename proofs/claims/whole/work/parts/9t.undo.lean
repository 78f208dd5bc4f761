section
/-! undo -/
theorem jW_525 {s s' d e : jvA} (h : ∀ j, j < 525 → s' j = s j) (hW : jW s d e) : jW s' d e := by
  have hO := hW.o.ord.2
  refine ⟨jWw_c (fun j hj => h j (by omega)) hW.w, jWd_c (h 1 (by decide)) (h 32 (by decide)) hW.d, jWe_c (h 1 (by decide)) (h 32 (by decide)) (h 33 (by decide)) hW.e, jWo_c (fun j hj => h j (by omega)) hW.o, jWc_c (fun j hj => h j (by omega)) hW.c, jWk_c (fun j hj => h j (by omega)) (fun _ => h 39 (by decide)) hO hW.k, ?_⟩
  rw [h 31 (by decide), jz_c (h 31 (by decide))]
  exact hW.t
theorem jR_525 {S : jaS} {s s' d e : jvA} (h : ∀ j, j < 525 → s' j = s j) (hW : jW s d e) (hR : jR S (s, d, e)) : jR S (s', d, e) := by
  have hO := hW.o.ord.2
  have hC := hW.o.came.2
  have h2 := hW.w.2.2.1.2.2
  have h10 := hW.w.2.1.2
  have h40 := hW.k.2.1.2
  have h38 : jz s 38 ≤ 10 := by
    rcases hW.k.1 with ⟨-, -, z, -⟩ | ⟨-, -, -, -, z⟩
    · rw [jz, z]
      decide
    · omega
  refine ⟨jRw_c (fun j hj => h j (by omega)) hW.w hR.w, jRs_c (h 32 (by decide)) hR.s, jRe_c (h 33 (by decide)) hR.e, jRo_c (fun j hj => h j (by omega)) hW.o hR.o, jRc_c (fun j hj => h j (by omega)) h2 h10 hO hR.c, jRk_c (fun j hj => h j (by omega)) h10 h38 (by omega) hR.k, ?_, jRp_c (fun j hj => h j (by omega)) hC hR.p⟩
  rw [hR.t]
  exact (h 31 (by decide)).symm
set_option maxHeartbeats 1000000 in
theorem jf_undo : jFc jy_A_undo jy_M_undo [] := by
  intro σ hI
  have hI0 := jI_0 (v := nI 0) hI
  have hI' := hI
  obtain ⟨h1, h2, h3, h4, h5, h6, h7, h8⟩ := hI'
  obtain ⟨m, q, a, b, c, d, e, i, k⟩ := h3
  apply js_A_undo
  rw [c, d]
  by_cases m0 : m = 0
  · rw [m0] at e ⊢
    refine ⟨fun z => absurd rfl z, fun _ => ?_⟩
    apply js_M_undo
    simp (disch := first | omega | decide) only [jaU_eq, jaU_U, nI_add, pk_mul, jaIx_nI, vp_inT, true_and, and_true, ↓jaO0, ↓jaO1, nI_z, nI_z2, nI_z3, nI_z4, nI_z5, nI_lt', nI_le', nI_eq', jaUI_at, jaPt_eq, jaPt_ne, jaUI_o, jaUI_2, jaUL_at, jaUL_o, jaUL_1, jaB_z, jaB_1, ↓jaB_01, Classical.not_not, and_self, true_or, or_true, nI_11, Nat.reduceEqDiff, Nat.reduceAdd, Nat.reduceMul, Nat.add_zero, Nat.zero_add, Nat.mul_zero, not_true_eq_false, not_false_eq_true, false_implies, true_implies, e]
    exact hI0
  · obtain ⟨y, y1, y2, y3, y4, y5, y6⟩ := k (m - 1) (by omega)
    have slot : 3 + (q + 8 - m + (m - 1)) % 8 = 3 + (q + 7) % 8 := by omega
    rw [slot] at y1 y6
    -- the reference
    have M : ∀ A' S', (∀ o, o ≠ 0 → A'.1 o = (σ 0).1 o) → (∀ j, j ≠ 8 → j ≠ 9 → A'.1 0 0 j = (σ 0).1 0 0 j) → A'.1 0 0 8 = nI ((q + 7) % 8) → A'.1 0 0 9 = nI (m - 1) → jR S' (y, (σ 20).1 75 0, (σ 20).1 76 0) → (∀ i, i < 16 → S'.2 35 0 i = (σ (3 + (q + 7) % 8)).2 35 0 i) → jaDe 12 jy_M_undo [jaMo] (jaU (jaU σ 0 A') 1 S') (jaKi fun b σ2 => nI (m - 1) = b ∧ jI σ2) := by
      intro A' S' a0 a1 a8 a9 r1 r2
      have e20 : jaU (jaU σ 0 A') 1 S' 20 = σ 20 := by rw [jaU_ne (by decide), jaU_ne (by decide)]
      refine jaAk (k := 20) (B := σ 20) (P := fun τ => jaDe 12 jy_M_undo [jaMo] τ (jaKi fun b σ2 => nI (m - 1) = b ∧ jI σ2)) e20 ?_
      apply js_M_undo
      have em : nI m - nI 1 = nI (m - 1) := nI_sub (by omega)
      simp (disch := first | omega | decide) only [jaU_eq, jaU_U, nI_add, pk_mul, jaIx_nI, vp_inT, true_and, and_true, ↓jaO0, ↓jaO1, nI_z, nI_z2, nI_z3, nI_z4, nI_z5, nI_lt', nI_le', nI_eq', jaUI_at, jaPt_eq, jaPt_ne, jaUI_o, jaUI_2, jaUL_at, jaUL_o, jaUL_1, jaB_z, jaB_1, ↓jaB_01, Classical.not_not, and_self, true_or, or_true, nI_11, Nat.reduceEqDiff, Nat.reduceAdd, Nat.reduceMul, Nat.add_zero, Nat.zero_add, Nat.mul_zero, not_true_eq_false, not_false_eq_true, false_implies, true_implies, e, m0, em]
      have f0 : jaFr [72] [0, 33] (σ 20) (jaUI (jaUI (σ 20) 70 0 0 (nI 0)) 70 0 33 (nI (m - 1))) := (jaFr.rfl.uf (by decide)).uf (by decide)
      generalize hB : jaUI (jaUI (σ 20) 70 0 0 (nI 0)) 70 0 33 (nI (m - 1)) = B0 at f0 ⊢
      have B33 : B0.1 70 0 33 = nI (m - 1) := by
        rw [← hB]
        simp (disch := first | omega | decide) only [jaU_eq, jaU_U, nI_add, pk_mul, jaIx_nI, vp_inT, true_and, and_true, ↓jaO0, ↓jaO1, nI_z, nI_z2, nI_z3, nI_z4, nI_z5, nI_lt', nI_le', nI_eq', jaUI_at, jaPt_eq, jaPt_ne, jaUI_o, jaUI_2, jaUL_at, jaUL_o, jaUL_1, jaB_z, jaB_1, ↓jaB_01, Classical.not_not, and_self, true_or, or_true, nI_11, Nat.reduceEqDiff, Nat.reduceAdd, Nat.reduceMul, Nat.add_zero, Nat.zero_add, Nat.mul_zero, not_true_eq_false, not_false_eq_true, false_implies, true_implies]
      have B72 : B0.1 72 0 = (σ 20).1 72 0 := by
        rw [← hB]
        simp (disch := first | omega | decide) only [jaU_eq, jaU_U, nI_add, pk_mul, jaIx_nI, vp_inT, true_and, and_true, ↓jaO0, ↓jaO1, nI_z, nI_z2, nI_z3, nI_z4, nI_z5, nI_lt', nI_le', nI_eq', jaUI_at, jaPt_eq, jaPt_ne, jaUI_o, jaUI_2, jaUL_at, jaUL_o, jaUL_1, jaB_z, jaB_1, ↓jaB_01, Classical.not_not, and_self, true_or, or_true, nI_11, Nat.reduceEqDiff, Nat.reduceAdd, Nat.reduceMul, Nat.add_zero, Nat.zero_add, Nat.mul_zero, not_true_eq_false, not_false_eq_true, false_implies, true_implies]
      have B83 : B0.1 83 0 = (σ 20).1 83 0 := by
        rw [← hB]
        simp (disch := first | omega | decide) only [jaU_eq, jaU_U, nI_add, pk_mul, jaIx_nI, vp_inT, true_and, and_true, ↓jaO0, ↓jaO1, nI_z, nI_z2, nI_z3, nI_z4, nI_z5, nI_lt', nI_le', nI_eq', jaUI_at, jaPt_eq, jaPt_ne, jaUI_o, jaUI_2, jaUL_at, jaUL_o, jaUL_1, jaB_z, jaB_1, ↓jaB_01, Classical.not_not, and_self, true_or, or_true, nI_11, Nat.reduceEqDiff, Nat.reduceAdd, Nat.reduceMul, Nat.add_zero, Nat.zero_add, Nat.mul_zero, not_true_eq_false, not_false_eq_true, false_implies, true_implies]
      refine jaFor (C := fun x => ∀ B, B.1 72 0 = jvCp ((σ 20).1 72 0) 31 ((σ 20).1 83 0) (494 * (m - 1)) x → B.1 83 0 = (σ 20).1 83 0 → B.1 70 0 33 = nI (m - 1) → jaFr [72] [0, 33] (σ 20) B → jc_M_undo_2 11 (fun b σ2 => nI (m - 1) = b ∧ jI σ2) (nI x) (jaU (jaU (jaU σ 0 A') 1 S') 20 B)) (N := 494) ?_ (fun x hx ih => ?_) B0 (by rw [B72, jvCp_0]) B83 B33 f0
      · intro B b72 b83 b33 f
        apply jb_M_undo_2
        simp (disch := first | omega | decide) only [jaU_eq, jaU_U, nI_add, pk_mul, jaIx_nI, vp_inT, true_and, and_true, ↓jaO0, ↓jaO1, nI_z, nI_z2, nI_z3, nI_z4, nI_z5, nI_lt', nI_le', nI_eq', jaUI_at, jaPt_eq, jaPt_ne, jaUI_o, jaUI_2, jaUL_at, jaUL_o, jaUL_1, jaB_z, jaB_1, ↓jaB_01, Classical.not_not, and_self, true_or, or_true, nI_11, Nat.reduceEqDiff, Nat.reduceAdd, Nat.reduceMul, Nat.add_zero, Nat.zero_add, Nat.mul_zero, not_true_eq_false, not_false_eq_true, false_implies, true_implies, b33]
        refine ⟨fun _ => ?_, fun z => absurd (by decide) z⟩
        generalize hs' : jvCp ((σ 20).1 72 0) 31 ((σ 20).1 83 0) (494 * (m - 1)) 494 = s' at b72
        have s525 : ∀ j, j < 525 → s' j = y j := fun j hj => by
          rw [← hs']
          rcases Nat.lt_or_ge j 31 with z | z
          · rw [jvCp_out (Or.inl z)]
            exact (y5 j z).symm
          · rw [show j = 31 + (j - 31) by omega, jvCp_in (by omega)]
            exact y4 (j - 31) (by omega)
        have sGe : ∀ j, 525 ≤ j → s' j = (σ 20).1 72 0 j := fun j hj => by
          rw [← hs', jvCp_out (Or.inr (by omega))]
        have s31 : ∀ j, j < 31 → s' j = (σ 20).1 72 0 j := fun j hj => (s525 j (by omega)).trans (y5 j hj)
        generalize hτ : jaU (jaU σ 0 A') 1 S' = τ at *
        have τ0 : τ 0 = A' := by rw [← hτ, jaU_ne (by decide), jaU_eq]
        have τ1 : τ 1 = S' := by rw [← hτ, jaU_eq]
        have τn : ∀ k, k ≠ 0 → k ≠ 1 → τ k = σ k := fun k k0 k1 => by rw [← hτ, jaU_ne k1, jaU_ne k0]
        have n : ∀ k, k ≠ 20 → jaU τ 20 B k = τ k := fun k hk => jaU_ne hk
        have E20 : jaU τ 20 B 20 = B := jaU_eq
        have bs : ∀ o, o ≠ 72 → o ≠ 70 → B.1 o = (σ 20).1 o := fun o h1 h2 => f.s o (by simpa using h1) h2
        have bl : ∀ o, o ≠ 72 → o ≠ 70 → B.2 o = (σ 20).2 o := fun o h1 h2 => f.l o (by simpa using h1) h2
        have bf : ∀ j, j ≠ 0 → j ≠ 33 → B.1 70 0 j = (σ 20).1 70 0 j := fun j h1 h2 => f.f j (by simp [h1, h2])
        have nm : ∀ i, i < 16 → S'.2 35 0 i = (σ 1).2 35 0 i := fun i hi => (r2 i hi).trans (y6 i hi)
        unfold jI
        rw [E20, n 0 (by decide), n 1 (by decide), τ0, τ1]
        refine ⟨?_, ?_, ?_, ?_, ?_, ?_, ?_, ?_⟩
        · unfold jIt
          rw [a1 1 (by decide) (by decide), a1 3 (by decide) (by decide), a0 1 (by decide), bf 2 (by decide) (by decide), bf 18 (by decide) (by decide), bs 71 (by decide) (by decide)]
          exact h1
        · unfold jIs jIx
          rw [b72, bs 75 (by decide) (by decide), bs 76 (by decide) (by decide), bl 78 (by decide) (by decide)]
          refine ⟨jR_525 s525 y2 r1, jW_525 s525 y2, by rw [jz_c (s525 31 (by decide))]; exact y3, ?_⟩
          obtain ⟨-, -, -, nm', g1, g2, g3⟩ := h2
          refine ⟨nm', fun j hj => ?_, fun j hj hu => g2 j hj ?_, fun z => ?_⟩
          · rw [nm j hj]
            exact g1 j hj
          · unfold jwU at hu ⊢
            rw [jz_c (s31 0 (by decide)), jz_c (s31 1 (by decide)), jz_c (s31 2 (by decide))] at hu
            exact hu
          · rw [jz_c (s31 2 (by decide))]
            exact g3 z
        · refine ⟨m - 1, (q + 7) % 8, by omega, by omega, a9, a8, b33, ?_, fun j hj => ?_⟩
          · rw [b72, b83]
            refine ⟨fun j j' hj hj' => i.1 j j' hj (by omega), fun j hj => ?_⟩
            have e1 : jz s' 32 = jz ((σ 20).1 83 0) (494 * (m - 1) + 1) := by
              unfold jz
              rw [s525 32 (by decide), y4 1 (by decide)]
            have e2 : jz s' 33 = jz ((σ 20).1 83 0) (494 * (m - 1) + 2) := by
              unfold jz
              rw [s525 33 (by decide), y4 2 (by decide)]
            rw [e1, e2]
            exact i.1 j (m - 1) (by omega) (by omega)
          · rw [n _ (by omega), τn _ (by omega) (by omega), b72, b83, bs 75 (by decide) (by decide), bs 76 (by decide) (by decide)]
            rw [show 3 + ((q + 7) % 8 + 8 - (m - 1) + j) % 8 = 3 + (q + 8 - m + j) % 8 by omega]
            obtain ⟨z, z1, z2, z3, z4, z5, z6⟩ := k j (by omega)
            refine ⟨z, z1, z2, z3, z4, fun i hi => (z5 i hi).trans (s31 i hi).symm, fun i hi => ?_⟩
            show _ = (jaU τ 20 B 1).2 35 0 i
            rw [n 1 (by decide), τ1, nm i hi]
            exact z6 i hi
        · obtain ⟨w, w1, w2, w3⟩ := h4
          refine ⟨w, w1, by rw [a1 11 (by decide) (by decide)]; exact w2, ?_⟩
          rw [n _ (by omega), τn _ (by omega) (by omega), b72]
          exact jSn_c sGe w3
        · intro k' hk'
          rw [a0 15 (by decide), bs 95 (by decide) (by decide), n _ (by omega), n _ (by omega), τn _ (by omega) (by omega), τn _ (by omega) (by omega)]
          unfold jIi1
          rw [bs 91 (by decide) (by decide), bs 92 (by decide) (by decide), bs 93 (by decide) (by decide), bl 94 (by decide) (by decide)]
          exact h5 k' hk'
        · unfold jIb
          rw [a1 17 (by decide) (by decide), a0 10 (by decide), bf 43 (by decide) (by decide), bs 88 (by decide) (by decide)]
          exact h6
        · unfold jIf
          rw [a0 16 (by decide), a0 17 (by decide), bf 37 (by decide) (by decide), bf 38 (by decide) (by decide), bf 39 (by decide) (by decide), bs 86 (by decide) (by decide)]
          exact h7
        · unfold jIm jmV
          rw [bl 79 (by decide) (by decide), n 13 (by decide), τn 13 (by decide) (by decide)]
          exact h8
      · intro B b72 b83 b33 f
        apply jb_M_undo_2
        simp (disch := first | omega | decide) only [jaU_eq, jaU_U, nI_add, pk_mul, jaIx_nI, vp_inT, true_and, and_true, ↓jaO0, ↓jaO1, nI_z, nI_z2, nI_z3, nI_z4, nI_z5, nI_lt', nI_le', nI_eq', jaUI_at, jaPt_eq, jaPt_ne, jaUI_o, jaUI_2, jaUL_at, jaUL_o, jaUL_1, jaB_z, jaB_1, ↓jaB_01, Classical.not_not, and_self, true_or, or_true, nI_11, Nat.reduceEqDiff, Nat.reduceAdd, Nat.reduceMul, Nat.add_zero, Nat.zero_add, Nat.mul_zero, not_true_eq_false, not_false_eq_true, false_implies, true_implies, b33, b83]
        refine ⟨fun q => absurd q (by omega), fun _ => ?_⟩
        refine ih _ ?_ ?_ ?_ (f.ui (by decide) (by decide))
        · rw [jvCp_s, ← b72]
          simp (disch := first | omega | decide) only [jaU_eq, jaU_U, nI_add, pk_mul, jaIx_nI, vp_inT, true_and, and_true, ↓jaO0, ↓jaO1, nI_z, nI_z2, nI_z3, nI_z4, nI_z5, nI_lt', nI_le', nI_eq', jaUI_at, jaPt_eq, jaPt_ne, jaUI_o, jaUI_2, jaUL_at, jaUL_o, jaUL_1, jaB_z, jaB_1, ↓jaB_01, Classical.not_not, and_self, true_or, or_true, nI_11, Nat.reduceEqDiff, Nat.reduceAdd, Nat.reduceMul, Nat.add_zero, Nat.zero_add, Nat.mul_zero, not_true_eq_false, not_false_eq_true, false_implies, true_implies]
        · simp (disch := first | omega | decide) only [jaU_eq, jaU_U, nI_add, pk_mul, jaIx_nI, vp_inT, true_and, and_true, ↓jaO0, ↓jaO1, nI_z, nI_z2, nI_z3, nI_z4, nI_z5, nI_lt', nI_le', nI_eq', jaUI_at, jaPt_eq, jaPt_ne, jaUI_o, jaUI_2, jaUL_at, jaUL_o, jaUL_1, jaB_z, jaB_1, ↓jaB_01, Classical.not_not, and_self, true_or, or_true, nI_11, Nat.reduceEqDiff, Nat.reduceAdd, Nat.reduceMul, Nat.add_zero, Nat.zero_add, Nat.mul_zero, not_true_eq_false, not_false_eq_true, false_implies, true_implies, b83]
        · simp (disch := first | omega | decide) only [jaU_eq, jaU_U, nI_add, pk_mul, jaIx_nI, vp_inT, true_and, and_true, ↓jaO0, ↓jaO1, nI_z, nI_z2, nI_z3, nI_z4, nI_z5, nI_lt', nI_le', nI_eq', jaUI_at, jaPt_eq, jaPt_ne, jaUI_o, jaUI_2, jaUL_at, jaUL_o, jaUL_1, jaB_z, jaB_1, ↓jaB_01, Classical.not_not, and_self, true_or, or_true, nI_11, Nat.reduceEqDiff, Nat.reduceAdd, Nat.reduceMul, Nat.add_zero, Nat.zero_add, Nat.mul_zero, not_true_eq_false, not_false_eq_true, false_implies, true_implies, b33]
    -- the class
    have out : ∀ A', (∀ o, o ≠ 0 → A'.1 o = (σ 0).1 o) → (∀ j, j ≠ 8 → j ≠ 9 → A'.1 0 0 j = (σ 0).1 0 0 j) → A'.1 0 0 8 = nI ((q + 7) % 8) → A'.1 0 0 9 = nI (m - 1) → jaDe 32 jy_St_copyFrom [jcSt 1, jcSt (3 + (q + 7) % 8)] (jaU σ 0 A') (jaKv fun σ3 => jaDe 12 jy_M_undo [jaMo] σ3 (jaKi fun b σ2 => (σ3 0).1 0 0 9 = b ∧ jI σ2)) := by
      intro A' a0 a1 a8 a9
      have es : jaU σ 0 A' (3 + (q + 7) % 8) = σ (3 + (q + 7) % 8) := jaU_ne (by omega)
      refine sp_St_copyFrom0 (by omega) (by omega) (by rw [es]; exact y1) y2 (fun S' r1 _ r2 => ?_)
      rw [es] at r2
      have := M A' S' a0 a1 a8 a9 r1 r2
      rw [jaU_ne (by decide), jaU_eq, a9]
      exact this
    refine ⟨fun _ => ⟨fun z => ?_, fun z => ?_⟩, fun z => absurd z (by rw [show (0 : Int32) = nI 0 from rfl, nI_eq' (by omega) (by omega)]; omega)⟩
    · have q0 : q = 0 := by
        rw [show (0 : Int32) = nI 0 from rfl, nI_le' (by omega) (by omega)] at z
        omega
      have em : nI m - nI 1 = nI (m - 1) := nI_sub (by omega)
      subst q0
      simp (disch := first | omega | decide) only [jaU_eq, jaU_U, nI_add, pk_mul, jaIx_nI, vp_inT, true_and, and_true, ↓jaO0, ↓jaO1, nI_z, nI_z2, nI_z3, nI_z4, nI_z5, nI_lt', nI_le', nI_eq', jaUI_at, jaPt_eq, jaPt_ne, jaUI_o, jaUI_2, jaUL_at, jaUL_o, jaUL_1, jaB_z, jaB_1, ↓jaB_01, Classical.not_not, and_self, true_or, or_true, nI_11, Nat.reduceEqDiff, Nat.reduceAdd, Nat.reduceMul, Nat.add_zero, Nat.zero_add, Nat.mul_zero, not_true_eq_false, not_false_eq_true, false_implies, true_implies, c, em]
      refine out _ (fun o ho => ?_) (fun j h1 h2 => ?_) ?_ ?_
      · funext a
        simp (disch := first | omega | decide) only [jaU_eq, jaU_U, nI_add, pk_mul, jaIx_nI, vp_inT, true_and, and_true, ↓jaO0, ↓jaO1, nI_z, nI_z2, nI_z3, nI_z4, nI_z5, nI_lt', nI_le', nI_eq', jaUI_at, jaPt_eq, jaPt_ne, jaUI_o, jaUI_2, jaUL_at, jaUL_o, jaUL_1, jaB_z, jaB_1, ↓jaB_01, Classical.not_not, and_self, true_or, or_true, nI_11, Nat.reduceEqDiff, Nat.reduceAdd, Nat.reduceMul, Nat.add_zero, Nat.zero_add, Nat.mul_zero, not_true_eq_false, not_false_eq_true, false_implies, true_implies, ho]
      · rw [jaUI_at, jaPt_ne h2, jaUI_at, jaPt_ne h1]
      · simp (disch := first | omega | decide) only [jaU_eq, jaU_U, nI_add, pk_mul, jaIx_nI, vp_inT, true_and, and_true, ↓jaO0, ↓jaO1, nI_z, nI_z2, nI_z3, nI_z4, nI_z5, nI_lt', nI_le', nI_eq', jaUI_at, jaPt_eq, jaPt_ne, jaUI_o, jaUI_2, jaUL_at, jaUL_o, jaUL_1, jaB_z, jaB_1, ↓jaB_01, Classical.not_not, and_self, true_or, or_true, nI_11, Nat.reduceEqDiff, Nat.reduceAdd, Nat.reduceMul, Nat.add_zero, Nat.zero_add, Nat.mul_zero, not_true_eq_false, not_false_eq_true, false_implies, true_implies]
      · simp (disch := first | omega | decide) only [jaU_eq, jaU_U, nI_add, pk_mul, jaIx_nI, vp_inT, true_and, and_true, ↓jaO0, ↓jaO1, nI_z, nI_z2, nI_z3, nI_z4, nI_z5, nI_lt', nI_le', nI_eq', jaUI_at, jaPt_eq, jaPt_ne, jaUI_o, jaUI_2, jaUL_at, jaUL_o, jaUL_1, jaB_z, jaB_1, ↓jaB_01, Classical.not_not, and_self, true_or, or_true, nI_11, Nat.reduceEqDiff, Nat.reduceAdd, Nat.reduceMul, Nat.add_zero, Nat.zero_add, Nat.mul_zero, not_true_eq_false, not_false_eq_true, false_implies, true_implies]
    · have q0 : ¬ q = 0 := by
        rw [show (0 : Int32) = nI 0 from rfl, nI_le' (by omega) (by omega)] at z
        omega
      have em : nI m - nI 1 = nI (m - 1) := nI_sub (by omega)
      have eq : nI q - nI 1 = nI (q - 1) := nI_sub (by omega)
      have e7 : q - 1 = (q + 7) % 8 := by omega
      rw [e7] at eq
      simp (disch := first | omega | decide) only [jaU_eq, jaU_U, nI_add, pk_mul, jaIx_nI, vp_inT, true_and, and_true, ↓jaO0, ↓jaO1, nI_z, nI_z2, nI_z3, nI_z4, nI_z5, nI_lt', nI_le', nI_eq', jaUI_at, jaPt_eq, jaPt_ne, jaUI_o, jaUI_2, jaUL_at, jaUL_o, jaUL_1, jaB_z, jaB_1, ↓jaB_01, Classical.not_not, and_self, true_or, or_true, nI_11, Nat.reduceEqDiff, Nat.reduceAdd, Nat.reduceMul, Nat.add_zero, Nat.zero_add, Nat.mul_zero, not_true_eq_false, not_false_eq_true, false_implies, true_implies, c, em, d, eq]
      refine out _ (fun o ho => ?_) (fun j h1 h2 => ?_) ?_ ?_
      · funext a
        simp (disch := first | omega | decide) only [jaU_eq, jaU_U, nI_add, pk_mul, jaIx_nI, vp_inT, true_and, and_true, ↓jaO0, ↓jaO1, nI_z, nI_z2, nI_z3, nI_z4, nI_z5, nI_lt', nI_le', nI_eq', jaUI_at, jaPt_eq, jaPt_ne, jaUI_o, jaUI_2, jaUL_at, jaUL_o, jaUL_1, jaB_z, jaB_1, ↓jaB_01, Classical.not_not, and_self, true_or, or_true, nI_11, Nat.reduceEqDiff, Nat.reduceAdd, Nat.reduceMul, Nat.add_zero, Nat.zero_add, Nat.mul_zero, not_true_eq_false, not_false_eq_true, false_implies, true_implies, ho]
      · rw [jaUI_at, jaPt_ne h2, jaUI_at, jaPt_ne h1]
      · simp (disch := first | omega | decide) only [jaU_eq, jaU_U, nI_add, pk_mul, jaIx_nI, vp_inT, true_and, and_true, ↓jaO0, ↓jaO1, nI_z, nI_z2, nI_z3, nI_z4, nI_z5, nI_lt', nI_le', nI_eq', jaUI_at, jaPt_eq, jaPt_ne, jaUI_o, jaUI_2, jaUL_at, jaUL_o, jaUL_1, jaB_z, jaB_1, ↓jaB_01, Classical.not_not, and_self, true_or, or_true, nI_11, Nat.reduceEqDiff, Nat.reduceAdd, Nat.reduceMul, Nat.add_zero, Nat.zero_add, Nat.mul_zero, not_true_eq_false, not_false_eq_true, false_implies, true_implies]
      · simp (disch := first | omega | decide) only [jaU_eq, jaU_U, nI_add, pk_mul, jaIx_nI, vp_inT, true_and, and_true, ↓jaO0, ↓jaO1, nI_z, nI_z2, nI_z3, nI_z4, nI_z5, nI_lt', nI_le', nI_eq', jaUI_at, jaPt_eq, jaPt_ne, jaUI_o, jaUI_2, jaUL_at, jaUL_o, jaUL_1, jaB_z, jaB_1, ↓jaB_01, Classical.not_not, and_self, true_or, or_true, nI_11, Nat.reduceEqDiff, Nat.reduceAdd, Nat.reduceMul, Nat.add_zero, Nat.zero_add, Nat.mul_zero, not_true_eq_false, not_false_eq_true, false_implies, true_implies]
end
