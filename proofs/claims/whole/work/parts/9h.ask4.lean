section
/-! questions, on: trans, asks, ready, arrived -/
theorem jf_trans {x1 x2 : Int32} : jFc jy_A_trans jy_M_trans [.inl x1, .inl x2] := by
  intro σ hI
  have hR := hI.R
  have hW := hI.W
  have hI0 := jI_0 (v := nI 0) hI
  generalize hs : (σ 20).1 72 0 = s at *
  generalize hd : (σ 20).1 75 0 = d at *
  generalize he : (σ 20).1 76 0 = e at *
  have s0 : (jaUI (σ 20) 70 0 0 (nI 0)).1 72 0 = s := by simp (disch := first | omega | decide) only [jaU_eq, jaU_U, nI_add, pk_mul, jaIx_nI, vp_inT, true_and, and_true, ↓jaO0, ↓jaO1, nI_z, nI_z2, nI_z3, nI_z4, nI_z5, nI_lt', nI_le', nI_eq', jaUI_at, jaPt_eq, jaPt_ne, jaUI_o, jaUI_2, jaUL_at, jaUL_o, jaUL_1, jaB_z, jaB_1, ↓jaB_01, Classical.not_not, and_self, true_or, or_true, nI_11, Nat.reduceEqDiff, Nat.reduceAdd, Nat.reduceMul, Nat.add_zero, Nat.zero_add, Nat.mul_zero, not_true_eq_false, not_false_eq_true, false_implies, true_implies, hs]
  have d0 : (jaUI (σ 20) 70 0 0 (nI 0)).1 75 0 = d := by simp (disch := first | omega | decide) only [jaU_eq, jaU_U, nI_add, pk_mul, jaIx_nI, vp_inT, true_and, and_true, ↓jaO0, ↓jaO1, nI_z, nI_z2, nI_z3, nI_z4, nI_z5, nI_lt', nI_le', nI_eq', jaUI_at, jaPt_eq, jaPt_ne, jaUI_o, jaUI_2, jaUL_at, jaUL_o, jaUL_1, jaB_z, jaB_1, ↓jaB_01, Classical.not_not, and_self, true_or, or_true, nI_11, Nat.reduceEqDiff, Nat.reduceAdd, Nat.reduceMul, Nat.add_zero, Nat.zero_add, Nat.mul_zero, not_true_eq_false, not_false_eq_true, false_implies, true_implies, hd]
  have e0 : (jaUI (σ 20) 70 0 0 (nI 0)).1 76 0 = e := by simp (disch := first | omega | decide) only [jaU_eq, jaU_U, nI_add, pk_mul, jaIx_nI, vp_inT, true_and, and_true, ↓jaO0, ↓jaO1, nI_z, nI_z2, nI_z3, nI_z4, nI_z5, nI_lt', nI_le', nI_eq', jaUI_at, jaPt_eq, jaPt_ne, jaUI_o, jaUI_2, jaUL_at, jaUL_o, jaUL_1, jaB_z, jaB_1, ↓jaB_01, Classical.not_not, and_self, true_or, or_true, nI_11, Nat.reduceEqDiff, Nat.reduceAdd, Nat.reduceMul, Nat.add_zero, Nat.zero_add, Nat.mul_zero, not_true_eq_false, not_false_eq_true, false_implies, true_implies, he]
  generalize hS : jaUI (σ 20) 70 0 0 (nI 0) = S at *
  have hO := hW.o.ord
  have hP := hW.o.pool
  have h32 := hW.o.many
  have M0 : (¬ ∃ q, q < jz s 32 ∧ x1 = nI q) → jaDe 12 jy_M_trans [jaMo, .inl x1, .inl x2] σ (jaKi fun b σ2 => (-1 : Int32) = b ∧ jI σ2) := by
    intro c
    apply js_M_trans
    simp only [hS]
    refine sp_M_isTrans (by omega) s0 h32.1 (by omega) ⟨fun z => absurd z (by rwa [jaB_z, Classical.not_not]), fun z => ⟨trivial, hI0⟩⟩
  have e54 : (σ 1).1 54 0 0 = nI (jz s 32) := hR.s.1.trans h32.1
  by_cases c : ∃ q, q < jz s 32 ∧ x1 = nI q
  · obtain ⟨n, hn, rfl⟩ := c
    obtain ⟨r1, r2, r3, -⟩ := hR.s.2 n hn
    obtain ⟨-, w1, w2, w3, -⟩ := hW.d n hn
    have hK : ∀ v S2, S2 = jaU σ 20 S → jaKi (fun b σ2 => v = b ∧ jI σ2) = jaKi (fun b σ2 => v = b ∧ jI σ2) := fun _ _ _ => rfl
    have M1 : ∀ v, (x2.toInt < 0 ∨ 4 < x2.toInt → v = -1) → (x2 = nI 0 → v = d (133 * n)) → (x2 = nI 1 → v = d (133 * n + 1)) → (x2 = nI 2 → v = nI (jaCnt (jvEo e (nI n)) (jz s 33))) → (x2 = nI 3 → v = jvLp s e (nI n) (jz s 34)) → (x2 = nI 4 → v = d (133 * n + 2)) → jaDe 12 jy_M_trans [jaMo, .inl (nI n), .inl x2] σ (jaKi fun b σ2 => v = b ∧ jI σ2) := by
      intro v v0 v1 v2 v3 v4 v5
      apply js_M_trans
      simp only [hS]
      refine sp_M_isTrans (by omega) s0 h32.1 (by omega) ?_
      rw [jaB_t ⟨n, hn, rfl⟩]
      refine ⟨fun _ => ?_, fun z => absurd z (by decide)⟩
      refine jaFor (C := fun j => jc_M_trans_2 11 (fun b σ2 => v = b ∧ jI σ2) (nI n) x2 (jvLp s e (nI n) j) (nI j) (jaU σ 20 S)) (N := jz s 34) ?_ (fun j hj ih => ?_)
      · apply jb_M_trans_2
        simp (disch := first | omega | decide) only [jaU_eq, jaU_U, nI_add, pk_mul, jaIx_nI, vp_inT, true_and, and_true, ↓jaO0, ↓jaO1, nI_z, nI_z2, nI_z3, nI_z4, nI_z5, nI_lt', nI_le', nI_eq', jaUI_at, jaPt_eq, jaPt_ne, jaUI_o, jaUI_2, jaUL_at, jaUL_o, jaUL_1, jaB_z, jaB_1, ↓jaB_01, Classical.not_not, and_self, true_or, or_true, nI_11, Nat.reduceEqDiff, Nat.reduceAdd, Nat.reduceMul, Nat.add_zero, Nat.zero_add, Nat.mul_zero, not_true_eq_false, not_false_eq_true, false_implies, true_implies, s0, d0]
        rw [hO.1]
        refine ⟨fun _ => ⟨fun q => ⟨v0 q, hI0⟩, fun q => ⟨v1 q, hI0⟩, fun q => ⟨v2 q, hI0⟩, fun q => sp_M_entriesOf (by omega) s0 e0 hP.1 hP.2 ⟨v3 q, hI0⟩, fun q => ⟨v4 q, hI0⟩, fun q => ⟨v5 q, hI0⟩⟩, fun z => absurd (by rw [nI_le' (by omega) (by omega)]; omega) z⟩
      · have hj4 := hW.o.id hj
        have hj5 := (hW.o.ids j hj).2
        have e41 : s (41 + j) = nI (jvId s j) := hj4.1
        rw [jvLp_s] at ih
        apply jb_M_trans_2
        simp (disch := first | omega | decide) only [jaU_eq, jaU_U, nI_add, pk_mul, jaIx_nI, vp_inT, true_and, and_true, ↓jaO0, ↓jaO1, nI_z, nI_z2, nI_z3, nI_z4, nI_z5, nI_lt', nI_le', nI_eq', jaUI_at, jaPt_eq, jaPt_ne, jaUI_o, jaUI_2, jaUL_at, jaUL_o, jaUL_1, jaB_z, jaB_1, ↓jaB_01, Classical.not_not, and_self, true_or, or_true, nI_11, Nat.reduceEqDiff, Nat.reduceAdd, Nat.reduceMul, Nat.add_zero, Nat.zero_add, Nat.mul_zero, not_true_eq_false, not_false_eq_true, false_implies, true_implies, s0]
        rw [hO.1]
        refine ⟨fun z => absurd z (by rw [nI_le' (by omega) (by omega)]; omega), fun _ => sp_M_idAt (by omega) s0 (by omega) ?_⟩
        rw [e41]
        simp (disch := first | omega | decide) only [jaU_eq, jaU_U, nI_add, pk_mul, jaIx_nI, vp_inT, true_and, and_true, ↓jaO0, ↓jaO1, nI_z, nI_z2, nI_z3, nI_z4, nI_z5, nI_lt', nI_le', nI_eq', jaUI_at, jaPt_eq, jaPt_ne, jaUI_o, jaUI_2, jaUL_at, jaUL_o, jaUL_1, jaB_z, jaB_1, ↓jaB_01, Classical.not_not, and_self, true_or, or_true, nI_11, Nat.reduceEqDiff, Nat.reduceAdd, Nat.reduceMul, Nat.add_zero, Nat.zero_add, Nat.mul_zero, not_true_eq_false, not_false_eq_true, false_implies, true_implies, e0]
        refine ⟨fun z => ?_, fun z => ?_⟩
        · rwa [jaIf1_f z] at ih
        · rwa [jaIf1_t z] at ih
    have M2 : ∀ q v, q < 5 → x2 = nI q → (q = 0 → v = d (133 * n)) → (q = 1 → v = d (133 * n + 1)) → (q = 2 → v = nI (jaCnt (jvEo e (nI n)) (jz s 33))) → (q = 3 → v = jvLp s e (nI n) (jz s 34)) → (q = 4 → v = d (133 * n + 2)) → jaDe 12 jy_M_trans [jaMo, .inl (nI n), .inl x2] σ (jaKi fun b σ2 => v = b ∧ jI σ2) := by
      intro q v hq h2 v1 v2 v3 v4 v5
      have u : ∀ r, r < 5 → x2 = nI r → q = r := fun r hr z => by
        rw [h2, nI_eq' (by omega) (by omega)] at z
        exact z
      refine M1 v (fun z => absurd z ?_) (fun z => v1 (u 0 (by decide) z)) (fun z => v2 (u 1 (by decide) z)) (fun z => v3 (u 2 (by decide) z)) (fun z => v4 (u 3 (by decide) z)) (fun z => v5 (u 4 (by decide) z))
      rw [h2]
      have : q = 0 ∨ q = 1 ∨ q = 2 ∨ q = 3 ∨ q = 4 := by omega
      rcases this with rfl | rfl | rfl | rfl | rfl <;> decide
    apply js_A_trans
    have r1 : (σ 1).1 55 0 n = d (133 * n) := r1
    have r2 : (σ 1).1 56 0 n = d (133 * n + 1) := r2
    have r3 : (σ 1).1 57 0 n = d (133 * n + 2) := r3
    simp (disch := first | omega | decide) only [jaU_eq, jaU_U, nI_add, pk_mul, jaIx_nI, vp_inT, true_and, and_true, ↓jaO0, ↓jaO1, nI_z, nI_z2, nI_z3, nI_z4, nI_z5, nI_lt', nI_le', nI_eq', jaUI_at, jaPt_eq, jaPt_ne, jaUI_o, jaUI_2, jaUL_at, jaUL_o, jaUL_1, jaB_z, jaB_1, ↓jaB_01, Classical.not_not, and_self, true_or, or_true, nI_11, Nat.reduceEqDiff, Nat.reduceAdd, Nat.reduceMul, Nat.add_zero, Nat.zero_add, Nat.mul_zero, not_true_eq_false, not_false_eq_true, false_implies, true_implies, e54, r1, r2, r3]
    refine ⟨fun _ => ⟨fun q => ?_, fun q => ?_, fun q => ?_, fun q => ?_, fun q => ?_, fun q => ?_⟩, fun z => absurd hn z⟩
    · have no : ∀ k, k < 5 → ¬ x2 = nI k := by
        intro k hk z
        rw [z] at q
        have : k = 0 ∨ k = 1 ∨ k = 2 ∨ k = 3 ∨ k = 4 := by omega
        rcases this with rfl | rfl | rfl | rfl | rfl <;> exact absurd q (by decide)
      exact M1 _ (fun _ => rfl) (fun z => absurd z (no 0 (by decide))) (fun z => absurd z (no 1 (by decide))) (fun z => absurd z (no 2 (by decide))) (fun z => absurd z (no 3 (by decide))) (fun z => absurd z (no 4 (by decide)))
    · exact M2 0 _ (by decide) q (fun _ => rfl) (fun z => absurd z (by decide)) (fun z => absurd z (by decide)) (fun z => absurd z (by decide)) (fun z => absurd z (by decide))
    · exact M2 1 _ (by decide) q (fun z => absurd z (by decide)) (fun _ => rfl) (fun z => absurd z (by decide)) (fun z => absurd z (by decide)) (fun z => absurd z (by decide))
    · refine jaAk (k := 1) (B := σ 1) (P := fun τ => jaDe 32 jy_En_countOf [jcEn 1, .inl (nI n)] τ (jaKi fun r6 σ5 => jaDe 12 jy_M_trans [jaMo, .inl (nI n), .inl x2] σ5 (jaKi fun b σ2 => r6 = b ∧ jI σ2))) rfl ?_
      refine sp_En_countOf (by omega) hR hW ?_
      rw [jaU_self]
      exact M2 2 _ (by decide) q (fun z => absurd z (by decide)) (fun z => absurd z (by decide)) (fun _ => rfl) (fun z => absurd z (by decide)) (fun z => absurd z (by decide))
    · refine jaAk (k := 1) (B := σ 1) (P := fun τ => jaDe 32 jy_En_lastPlaceOf [jcEn 1, .inl (nI n)] τ (jaKi fun r6 σ5 => jaDe 12 jy_M_trans [jaMo, .inl (nI n), .inl x2] σ5 (jaKi fun b σ2 => r6 = b ∧ jI σ2))) rfl ?_
      refine sp_En_lastPlaceOf (by omega) hR hW ?_
      rw [jaU_self]
      exact M2 3 _ (by decide) q (fun z => absurd z (by decide)) (fun z => absurd z (by decide)) (fun z => absurd z (by decide)) (fun _ => rfl) (fun z => absurd z (by decide))
    · exact M2 4 _ (by decide) q (fun z => absurd z (by decide)) (fun z => absurd z (by decide)) (fun z => absurd z (by decide)) (fun z => absurd z (by decide)) (fun _ => rfl)
  · have N := M0 c
    apply js_A_trans
    rw [e54]
    refine ⟨fun _ => N, fun y => ⟨fun z => ?_, fun _ => N⟩⟩
    refine absurd ((jxInC (N := jz s 32) (by omega) (x := x1)).mp ⟨y, ?_⟩) c
    rw [Int32.le_iff_toInt_le]
    rw [Int32.lt_iff_toInt_lt] at z
    omega
theorem jvNt_no {p : Nat → Prop} {t : Int32} (ht : t < 0) : ∀ m j n, n + m < 1000000 → jvNt p t m j n = none
  | 0, _, _, _ => rfl
  | m + 1, j, n, h => by
    have e : ¬ nI n = t := fun z => by
      rw [← z, show (0 : Int32) = nI 0 from rfl, nI_lt' (by omega) (by omega)] at ht
      omega
    rw [jvNt, jvNt_no ht m (j + 1) (n + 1) (by omega), jvNt_no ht m (j + 1) n (by omega), jaIf1_f e]
    unfold jaIf1
    split <;> rfl
theorem jf_asks {x1 x2 x3 : Int32} : jFc jy_A_asks jy_M_asks [.inl x1, .inl x2, .inl x3] := by
  intro σ hI
  have hR := hI.R
  have hW := hI.W
  have hI0 := jI_0 (v := nI 0) hI
  generalize hs : (σ 20).1 72 0 = s at *
  generalize hd : (σ 20).1 75 0 = d at *
  generalize he : (σ 20).1 76 0 = e at *
  have s0 : (jaUI (σ 20) 70 0 0 (nI 0)).1 72 0 = s := by simp (disch := first | omega | decide) only [jaU_eq, jaU_U, nI_add, pk_mul, jaIx_nI, vp_inT, true_and, and_true, ↓jaO0, ↓jaO1, nI_z, nI_z2, nI_z3, nI_z4, nI_z5, nI_lt', nI_le', nI_eq', jaUI_at, jaPt_eq, jaPt_ne, jaUI_o, jaUI_2, jaUL_at, jaUL_o, jaUL_1, jaB_z, jaB_1, ↓jaB_01, Classical.not_not, and_self, true_or, or_true, nI_11, Nat.reduceEqDiff, Nat.reduceAdd, Nat.reduceMul, Nat.add_zero, Nat.zero_add, Nat.mul_zero, not_true_eq_false, not_false_eq_true, false_implies, true_implies, hs]
  have d0 : (jaUI (σ 20) 70 0 0 (nI 0)).1 75 0 = d := by simp (disch := first | omega | decide) only [jaU_eq, jaU_U, nI_add, pk_mul, jaIx_nI, vp_inT, true_and, and_true, ↓jaO0, ↓jaO1, nI_z, nI_z2, nI_z3, nI_z4, nI_z5, nI_lt', nI_le', nI_eq', jaUI_at, jaPt_eq, jaPt_ne, jaUI_o, jaUI_2, jaUL_at, jaUL_o, jaUL_1, jaB_z, jaB_1, ↓jaB_01, Classical.not_not, and_self, true_or, or_true, nI_11, Nat.reduceEqDiff, Nat.reduceAdd, Nat.reduceMul, Nat.add_zero, Nat.zero_add, Nat.mul_zero, not_true_eq_false, not_false_eq_true, false_implies, true_implies, hd]
  have e0 : (jaUI (σ 20) 70 0 0 (nI 0)).1 76 0 = e := by simp (disch := first | omega | decide) only [jaU_eq, jaU_U, nI_add, pk_mul, jaIx_nI, vp_inT, true_and, and_true, ↓jaO0, ↓jaO1, nI_z, nI_z2, nI_z3, nI_z4, nI_z5, nI_lt', nI_le', nI_eq', jaUI_at, jaPt_eq, jaPt_ne, jaUI_o, jaUI_2, jaUL_at, jaUL_o, jaUL_1, jaB_z, jaB_1, ↓jaB_01, Classical.not_not, and_self, true_or, or_true, nI_11, Nat.reduceEqDiff, Nat.reduceAdd, Nat.reduceMul, Nat.add_zero, Nat.zero_add, Nat.mul_zero, not_true_eq_false, not_false_eq_true, false_implies, true_implies, he]
  generalize hS : jaUI (σ 20) 70 0 0 (nI 0) = S at *
  have hO := hW.o.ord
  have hC := hW.w.2.2.1
  have hK := hW.w.2.1
  have M0 : ((¬ ∃ q, q < jz s 2 ∧ x1 = nI q) ∨ ¬ ∃ q, q < jz s 1 ∧ x2 = nI q) → jaDe 12 jy_M_asks [jaMo, .inl x1, .inl x2, .inl x3] σ (jaKi fun b σ2 => (-1 : Int32) = b ∧ jI σ2) := by
    intro c
    apply js_M_asks
    simp only [hS]
    refine sp_M_isCopy (by omega) s0 hC.1 (by omega) ⟨fun _ => ⟨trivial, hI0⟩, fun z => sp_M_isKey (by omega) s0 hK.1 (by omega) ⟨fun y => ?_, fun _ => ⟨trivial, hI0⟩⟩⟩
    rw [jaB_z, Classical.not_not] at z y
    exact absurd c (by simp only [z, y, not_true_eq_false, or_self, not_false_eq_true])
  apply js_A_asks
  refine sp_A_isCopy (by omega) hR hW ⟨fun z => M0 (Or.inl (by rwa [jaB_z] at z)), fun z => sp_A_isKey (by omega) hR hW ⟨fun y => M0 (Or.inr (by rwa [jaB_z] at y)), fun y => ?_⟩⟩
  rw [jaB_z, Classical.not_not] at z y
  obtain ⟨c, hc, rfl⟩ := z
  obtain ⟨q, hq, rfl⟩ := y
  have M1 : ∀ v, v = jvOp (jvNt (jvAk s e c q) x3 (jz s 34) 0 0) (fun r => nI (2 * r + jaBn (jaBt (e (9 * jvId s r + 3)) q))) → jaDe 12 jy_M_asks [jaMo, .inl (nI c), .inl (nI q), .inl x3] σ (jaKi fun b σ2 => v = b ∧ jI σ2) := by
    intro v hv
    apply js_M_asks
    simp only [hS]
    refine sp_M_isCopy (by omega) s0 hC.1 (by omega) ?_
    rw [jaB_t ⟨c, hc, rfl⟩]
    refine ⟨fun z => absurd z (by decide), fun _ => sp_M_isKey (by omega) s0 hK.1 (by omega) ?_⟩
    rw [jaB_t ⟨q, hq, rfl⟩]
    refine ⟨fun _ => ?_, fun z => absurd z (by decide)⟩
    have L : ∀ m j n, j + m = jz s 34 → n ≤ j → v = jvOp (jvNt (jvAk s e c q) x3 m j n) (fun r => nI (2 * r + jaBn (jaBt (e (9 * jvId s r + 3)) q))) → jc_M_asks_3 11 (fun b σ2 => v = b ∧ jI σ2) (nI c) (nI q) x3 (nI n) (nI j) (jaU σ 20 S) := by
      intro m
      induction m with
      | zero =>
        intro j n hj hn hk
        apply jb_M_asks_3
        simp (disch := first | omega | decide) only [jaU_eq, jaU_U, nI_add, pk_mul, jaIx_nI, vp_inT, true_and, and_true, ↓jaO0, ↓jaO1, nI_z, nI_z2, nI_z3, nI_z4, nI_z5, nI_lt', nI_le', nI_eq', jaUI_at, jaPt_eq, jaPt_ne, jaUI_o, jaUI_2, jaUL_at, jaUL_o, jaUL_1, jaB_z, jaB_1, ↓jaB_01, Classical.not_not, and_self, true_or, or_true, nI_11, Nat.reduceEqDiff, Nat.reduceAdd, Nat.reduceMul, Nat.add_zero, Nat.zero_add, Nat.mul_zero, not_true_eq_false, not_false_eq_true, false_implies, true_implies, s0]
        rw [hO.1]
        exact ⟨fun _ => ⟨hk, hI0⟩, fun z => absurd (by rw [nI_le' (by omega) (by omega)]; omega) z⟩
      | succ m ih =>
        intro j n hj hn hk
        have hjl : j < jz s 34 := by omega
        have hj4 := hW.o.id hjl
        have hj5 := (hW.o.ids j hjl).2
        rw [jvNt] at hk
        apply jb_M_asks_3
        simp (disch := first | omega | decide) only [jaU_eq, jaU_U, nI_add, pk_mul, jaIx_nI, vp_inT, true_and, and_true, ↓jaO0, ↓jaO1, nI_z, nI_z2, nI_z3, nI_z4, nI_z5, nI_lt', nI_le', nI_eq', jaUI_at, jaPt_eq, jaPt_ne, jaUI_o, jaUI_2, jaUL_at, jaUL_o, jaUL_1, jaB_z, jaB_1, ↓jaB_01, Classical.not_not, and_self, true_or, or_true, nI_11, Nat.reduceEqDiff, Nat.reduceAdd, Nat.reduceMul, Nat.add_zero, Nat.zero_add, Nat.mul_zero, not_true_eq_false, not_false_eq_true, false_implies, true_implies, s0]
        rw [hO.1]
        refine ⟨fun z => absurd z (by rw [nI_le' (by omega) (by omega)]; omega), fun _ => sp_M_isOver (by omega) s0 (by omega) (by omega) ⟨fun z => ?_, fun z => ?_⟩⟩
        · rw [jaB_z, Classical.not_not] at z
          rw [jaIf1_f (fun u : jvAk s e c q j => u.1 z)] at hk
          exact ih _ _ (by omega) (by omega) hk
        · rw [jaB_z] at z
          refine sp_M_readsOf (by omega) s0 e0 (by omega) hj4.1 hj5 (sp_M_writesOf (by omega) s0 e0 (by omega) hj4.1 hj5 (sp_M_bitOf (by omega) ?_))
          rw [jaB_c (jaBt_or (by omega))]
          refine ⟨fun y => ?_, fun y => ?_⟩
          · rw [jaB_z, Classical.not_not] at y
            rw [jaIf1_t (show jvAk s e c q j from ⟨z, y.symm⟩)] at hk
            refine ⟨fun u => ?_, fun u => ?_⟩
            · rw [jaIf1_f u] at hk
              exact ih _ _ (by omega) (by omega) hk
            · rw [jaIf1_t u] at hk
              refine sp_M_writesOf (by omega) s0 e0 (by omega) hj4.1 hj5 (sp_M_bitOf (by omega) ?_)
              have hk : v = nI (2 * j + jaBn (jaBt (e (9 * jz s (41 + j) + 3)) q)) := hk
              by_cases b : jaBt (e (9 * jz s (41 + j) + 3)) q
              · rw [jaBn_t b] at hk
                rw [jaB_t b]
                refine ⟨fun u => absurd u (by decide), fun _ => ?_⟩
                exact ⟨hk, hI0⟩
              · rw [jaBn_f b] at hk
                rw [jaB_f b]
                refine ⟨fun _ => ?_, fun u => absurd rfl u⟩
                exact ⟨hk, hI0⟩
          · rw [jaB_z] at y
            rw [jaIf1_f (fun u : jvAk s e c q j => y u.2.symm)] at hk
            exact ih _ _ (by omega) (by omega) hk
    exact L _ 0 0 (by omega) (by omega) hv
  refine ⟨fun z => M1 _ (by rw [jvNt_no z _ _ _ (by omega)]; rfl), fun z => ?_⟩
  refine jaAk (k := 1) (B := σ 1) (P := fun τ => jaDe 32 jy_St_whoAsks [jcSt 1, .inl (nI c), .inl (nI q), .inl x3] τ (jaKi fun r6 σ5 => jaDe 12 jy_M_asks [jaMo, .inl (nI c), .inl (nI q), .inl x3] σ5 (jaKi fun b σ2 => r6 = b ∧ jI σ2))) rfl ?_
  refine sp_St_whoAsks (by omega) hR hW hc (by omega) ?_
  rw [jaU_self]
  exact M1 _ rfl
end
