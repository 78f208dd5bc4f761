section
/-! questions, on: entry, foreseen, trans -/
theorem jf_entry {x1 x2 : Int32} : jFc jy_A_entry jy_M_entry [.inl x1, .inl x2] := by
  intro σ hI
  have hR := hI.R
  have hW := hI.W
  have hI0 := jI_0 (v := nI 0) hI
  generalize hs : (σ 20).1 72 0 = s at *
  generalize hd : (σ 20).1 75 0 = d at *
  generalize he : (σ 20).1 76 0 = e at *
  have s0 : (jaUI (σ 20) 70 0 0 (nI 0)).1 72 0 = s := by simp (disch := first | omega | decide) only [jaU_eq, jaU_U, nI_add, pk_mul, jaIx_nI, vp_inT, true_and, and_true, ↓jaO0, ↓jaO1, nI_z, nI_z2, nI_z3, nI_z4, nI_z5, nI_lt', nI_le', nI_eq', jaUI_at, jaPt_eq, jaPt_ne, jaUI_o, jaUI_2, jaUL_at, jaUL_o, jaUL_1, jaB_z, jaB_1, ↓jaB_01, Classical.not_not, and_self, true_or, or_true, nI_11, Nat.reduceEqDiff, Nat.reduceAdd, Nat.reduceMul, Nat.add_zero, Nat.zero_add, Nat.mul_zero, not_true_eq_false, not_false_eq_true, false_implies, true_implies, hs]
  have d0 : (jaUI (σ 20) 70 0 0 (nI 0)).1 75 0 = d := by simp (disch := first | omega | decide) only [jaU_eq, jaU_U, nI_add, pk_mul, jaIx_nI, vp_inT, true_and, and_true, ↓jaO0, ↓jaO1, nI_z, nI_z2, nI_z3, nI_z4, nI_z5, nI_lt', nI_le', nI_eq', jaUI_at, jaPt_eq, jaPt_ne, jaUI_o, jaUI_2, jaUL_at, jaUL_o, jaUL_1, jaB_z, jaB_1, ↓jaB_01, Classical.not_not, and_self, true_or, or_true, nI_11, Nat.reduceEqDiff, Nat.reduceAdd, Nat.reduceMul, Nat.add_zero, Nat.zero_add, Nat.mul_zero, not_true_eq_false, not_false_eq_true, false_implies, true_implies, hd]
  have e0 : (jaUI (σ 20) 70 0 0 (nI 0)).1 76 0 = e := by simp (disch := first | omega | decide) only [jaU_eq, jaU_U, nI_add, pk_mul, jaIx_nI, vp_inT, true_and, and_true, ↓jaO0, ↓jaO1, nI_z, nI_z2, nI_z3, nI_z4, nI_z5, nI_lt', nI_le', nI_eq', jaUI_at, jaPt_eq, jaPt_ne, jaUI_o, jaUI_2, jaUL_at, jaUL_o, jaUL_1, jaB_z, jaB_1, ↓jaB_01, Classical.not_not, and_self, true_or, or_true, nI_11, Nat.reduceEqDiff, Nat.reduceAdd, Nat.reduceMul, Nat.add_zero, Nat.zero_add, Nat.mul_zero, not_true_eq_false, not_false_eq_true, false_implies, true_implies, he]
  generalize hS : jaUI (σ 20) 70 0 0 (nI 0) = S at *
  have hO := hW.o.ord
  have hP := hW.o.pool.2
  have M0 : (¬ ∃ q, q < jz s 34 ∧ x1 = nI q) → jaDe 12 jy_M_entry [jaMo, .inl x1, .inl x2] σ (jaKi fun b σ2 => (-1 : Int32) = b ∧ jI σ2) := by
    intro c
    apply js_M_entry
    simp only [hS]
    refine sp_M_isEntry (by omega) s0 hO.1 (by omega) ⟨fun z => absurd z (by rwa [jaB_z, Classical.not_not]), fun z => ⟨trivial, hI0⟩⟩
  have M1 : ∀ i v, i < jz s 34 → x1 = nI i → (x2 = nI 5 → v = nI (jaCnt (fun j => jvCf s e i j) i)) → (∀ q, q < 5 → x2 = nI q → v = e (9 * jvId s i + q)) → ((¬ ∃ q, q < 6 ∧ x2 = nI q) → v = -1) → jaDe 12 jy_M_entry [jaMo, .inl x1, .inl x2] σ (jaKi fun b σ2 => v = b ∧ jI σ2) := by
    intro i v hi hx v1 v2 v3
    subst hx
    have hid := hW.o.id hi
    have e41 : s (41 + i) = nI (jvId s i) := hid.1
    have e4 : (¬ x2 < nI 0 ∧ ¬ nI 4 < x2) ↔ ∃ q, q < 5 ∧ x2 = nI q := by
      have := jxIn (N := 5) (by decide) (x := x2)
      rw [nI_sub (by decide)] at this
      exact this
    apply js_M_entry
    simp only [hS]
    refine sp_M_isEntry (by omega) s0 hO.1 (by omega) ?_
    rw [jaB_t ⟨i, hi, rfl⟩]
    refine ⟨fun _ => ?_, fun z => absurd z (by decide)⟩
    refine jaFor (C := fun j => jc_M_entry_2 11 (fun b σ2 => v = b ∧ jI σ2) (nI i) x2 (nI (jaCnt (fun j => jvCf s e i j) j)) (nI j) (jaU σ 20 S)) (N := i) ?_ (fun j hj ih => ?_)
    · apply jb_M_entry_2
      refine ⟨fun _ => sp_M_isIn (by omega) ?_, fun z => absurd (by rw [nI_le' (by omega) (by omega)]; omega) z⟩
      rw [jaB_c e4]
      refine ⟨fun z => ?_, fun z => ?_⟩
      · rw [jaB_z] at z
        refine ⟨fun y => ⟨v3 (fun u => ?_), hI0⟩, fun y => ⟨v1 y, hI0⟩⟩
        obtain ⟨q, q1, q2⟩ := u
        by_cases q5 : q = 5
        · exact y (by rw [q2, q5])
        · exact z ⟨q, by omega, q2⟩
      · rw [jaB_z, Classical.not_not] at z
        obtain ⟨q, q1, q2⟩ := z
        refine sp_M_idAt (by omega) s0 (by omega) ?_
        rw [e41, q2]
        have hI5 : jvId s i < 64 := by have : jvId s i < jz s 33 := hid.2; omega
        simp (disch := first | omega | decide) only [jaU_eq, jaU_U, nI_add, pk_mul, jaIx_nI, vp_inT, true_and, and_true, ↓jaO0, ↓jaO1, nI_z, nI_z2, nI_z3, nI_z4, nI_z5, nI_lt', nI_le', nI_eq', jaUI_at, jaPt_eq, jaPt_ne, jaUI_o, jaUI_2, jaUL_at, jaUL_o, jaUL_1, jaB_z, jaB_1, ↓jaB_01, Classical.not_not, and_self, true_or, or_true, nI_11, Nat.reduceEqDiff, Nat.reduceAdd, Nat.reduceMul, Nat.add_zero, Nat.zero_add, Nat.mul_zero, not_true_eq_false, not_false_eq_true, false_implies, true_implies, e0]
        exact ⟨v2 q q1 q2, hI0⟩
    · have hj4 := hW.o.id (show j < jz s 34 by omega)
      apply jb_M_entry_2
      refine ⟨fun z => absurd z (by rw [nI_le' (by omega) (by omega)]; omega), fun _ => ?_⟩
      refine sp_M_areConflict (by omega) s0 e0 (by omega) (by omega) e41 (hW.o.ids i hi).2 hj4.1 (hW.o.ids j (by omega)).2 ?_
      refine ⟨fun z => ?_, fun z => ?_⟩
      · rw [jaB_z] at z
        rw [jaCnt_f (p := fun j => jvCf s e i j) z] at ih
        simp (disch := first | omega | decide) only [jaU_eq, jaU_U, nI_add, pk_mul, jaIx_nI, vp_inT, true_and, and_true, ↓jaO0, ↓jaO1, nI_z, nI_z2, nI_z3, nI_z4, nI_z5, nI_lt', nI_le', nI_eq', jaUI_at, jaPt_eq, jaPt_ne, jaUI_o, jaUI_2, jaUL_at, jaUL_o, jaUL_1, jaB_z, jaB_1, ↓jaB_01, Classical.not_not, and_self, true_or, or_true, nI_11, Nat.reduceEqDiff, Nat.reduceAdd, Nat.reduceMul, Nat.add_zero, Nat.zero_add, Nat.mul_zero, not_true_eq_false, not_false_eq_true, false_implies, true_implies]
        exact ih
      · rw [jaB_z, Classical.not_not] at z
        rw [jaCnt_t (p := fun j => jvCf s e i j) z] at ih
        simp (disch := first | omega | decide) only [jaU_eq, jaU_U, nI_add, pk_mul, jaIx_nI, vp_inT, true_and, and_true, ↓jaO0, ↓jaO1, nI_z, nI_z2, nI_z3, nI_z4, nI_z5, nI_lt', nI_le', nI_eq', jaUI_at, jaPt_eq, jaPt_ne, jaUI_o, jaUI_2, jaUL_at, jaUL_o, jaUL_1, jaB_z, jaB_1, ↓jaB_01, Classical.not_not, and_self, true_or, or_true, nI_11, Nat.reduceEqDiff, Nat.reduceAdd, Nat.reduceMul, Nat.add_zero, Nat.zero_add, Nat.mul_zero, not_true_eq_false, not_false_eq_true, false_implies, true_implies]
        exact ih
  apply js_A_entry
  refine sp_A_isOrdered (by omega) hR hW ⟨fun y => ?_, fun y => M0 (by rwa [jaB_z] at y)⟩
  rw [jaB_z, Classical.not_not] at y
  obtain ⟨i, hi, rfl⟩ := y
  have hid := hW.o.id hi
  have e41 : (σ 1).1 68 0 i = nI (jvId s i) := ((hR.o.2.2.1 i hi).1).trans hid.1
  have hI5 : jvId s i < 64 := (hW.o.ids i hi).2
  obtain ⟨r1, r2, r3, r4, -⟩ := hR.e _ hid.2
  obtain ⟨-, -, -, -, t4⟩ := hW.e _ hid.2
  have r1 : (σ 1).1 61 0 (jvId s i) = e (9 * jvId s i) := r1
  have r2 : (σ 1).1 62 0 (jvId s i) = e (9 * jvId s i + 2) := r2
  have r3 : (σ 1).1 63 0 (jvId s i) = e (9 * jvId s i + 3) := r3
  have r4 : (σ 1).1 64 0 (jvId s i) = e (9 * jvId s i + 4) := r4
  have t4 : e (9 * jvId s i + 4) = nI 0 ∨ e (9 * jvId s i + 4) = nI 1 := t4
  have M2 : ∀ q v, q < 5 → x2 = nI q → v = e (9 * jvId s i + q) → jaDe 12 jy_M_entry [jaMo, .inl (nI i), .inl x2] σ (jaKi fun b σ2 => v = b ∧ jI σ2) := by
    intro q v h1 h2 h3
    refine M1 i v hi rfl (fun z => ?_) (fun q' h4 z => ?_) (fun z => absurd ⟨q, by omega, h2⟩ z)
    · rw [h2, nI_eq' (by omega) (by omega)] at z
      omega
    · rw [h2, nI_eq' (by omega) (by omega)] at z
      rw [← z]
      exact h3
  simp (disch := first | omega | decide) only [jaU_eq, jaU_U, nI_add, pk_mul, jaIx_nI, vp_inT, true_and, and_true, ↓jaO0, ↓jaO1, nI_z, nI_z2, nI_z3, nI_z4, nI_z5, nI_lt', nI_le', nI_eq', jaUI_at, jaPt_eq, jaPt_ne, jaUI_o, jaUI_2, jaUL_at, jaUL_o, jaUL_1, jaB_z, jaB_1, ↓jaB_01, Classical.not_not, and_self, true_or, or_true, nI_11, Nat.reduceEqDiff, Nat.reduceAdd, Nat.reduceMul, Nat.add_zero, Nat.zero_add, Nat.mul_zero, not_true_eq_false, not_false_eq_true, false_implies, true_implies, e41, r1, r2, r3, r4]
  refine ⟨fun q => ?_, fun q => ?_, fun q => ?_, fun q => ?_, fun q => ?_, fun q => ?_, fun q => ?_⟩
  · refine M1 i _ hi rfl (fun z => absurd q (by rw [z]; decide)) (fun q' h z => absurd q ?_) (fun _ => rfl)
    rw [z]
    have : q' = 0 ∨ q' = 1 ∨ q' = 2 ∨ q' = 3 ∨ q' = 4 := by omega
    rcases this with rfl | rfl | rfl | rfl | rfl <;> decide
  · exact M2 0 _ (by decide) q rfl
  · refine jaAk (k := 1) (B := σ 1) (P := fun τ => jaDe 32 jy_St_siteOf [jcSt 1, .inl (nI (jvId s i))] τ (jaKi fun r6 σ5 => jaDe 12 jy_M_entry [jaMo, .inl (nI i), .inl x2] σ5 (jaKi fun b σ2 => r6 = b ∧ jI σ2))) rfl ?_
    refine sp_St_siteOf (by omega) hR.e hR.s hW.e hid.2 hI5 hW.o.many.2 ?_
    rw [jaU_self]
    exact M2 1 _ (by decide) q rfl
  · exact M2 2 _ (by decide) q rfl
  · exact M2 3 _ (by decide) q rfl
  · rcases t4 with t4 | t4
    · exact ⟨fun _ => M2 4 _ (by decide) q t4.symm, fun z => absurd t4 z⟩
    · exact ⟨fun z => absurd (t4.symm.trans z) (by decide), fun z => M2 4 _ (by decide) q t4.symm⟩
  · refine jaAk (k := 1) (B := σ 1) (P := fun τ => jaDe 32 jy_En_conflictsAhead [jcEn 1, .inl (nI i)] τ (jaKi fun r6 σ5 => jaDe 12 jy_M_entry [jaMo, .inl (nI i), .inl x2] σ5 (jaKi fun b σ2 => r6 = b ∧ jI σ2))) rfl ?_
    refine sp_En_conflictsAhead (by omega) hR hW hi ?_
    rw [jaU_self]
    refine M1 i _ hi rfl (fun _ => rfl) (fun q' h z => ?_) (fun z => absurd ⟨5, by decide, q⟩ z)
    rw [q, nI_eq' (by omega) (by omega)] at z
    omega
theorem jf_foreseen {x1 x2 : Int32} : jFc jy_A_foreseen jy_M_foreseen [.inl x1, .inl x2] := by
  intro σ hI
  have hR := hI.R
  have hW := hI.W
  have hI0 := jI_0 (v := nI 0) hI
  generalize hs : (σ 20).1 72 0 = s at *
  generalize hd : (σ 20).1 75 0 = d at *
  generalize he : (σ 20).1 76 0 = e at *
  have s0 : (jaUI (σ 20) 70 0 0 (nI 0)).1 72 0 = s := by simp (disch := first | omega | decide) only [jaU_eq, jaU_U, nI_add, pk_mul, jaIx_nI, vp_inT, true_and, and_true, ↓jaO0, ↓jaO1, nI_z, nI_z2, nI_z3, nI_z4, nI_z5, nI_lt', nI_le', nI_eq', jaUI_at, jaPt_eq, jaPt_ne, jaUI_o, jaUI_2, jaUL_at, jaUL_o, jaUL_1, jaB_z, jaB_1, ↓jaB_01, Classical.not_not, and_self, true_or, or_true, nI_11, Nat.reduceEqDiff, Nat.reduceAdd, Nat.reduceMul, Nat.add_zero, Nat.zero_add, Nat.mul_zero, not_true_eq_false, not_false_eq_true, false_implies, true_implies, hs]
  have d0 : (jaUI (σ 20) 70 0 0 (nI 0)).1 75 0 = d := by simp (disch := first | omega | decide) only [jaU_eq, jaU_U, nI_add, pk_mul, jaIx_nI, vp_inT, true_and, and_true, ↓jaO0, ↓jaO1, nI_z, nI_z2, nI_z3, nI_z4, nI_z5, nI_lt', nI_le', nI_eq', jaUI_at, jaPt_eq, jaPt_ne, jaUI_o, jaUI_2, jaUL_at, jaUL_o, jaUL_1, jaB_z, jaB_1, ↓jaB_01, Classical.not_not, and_self, true_or, or_true, nI_11, Nat.reduceEqDiff, Nat.reduceAdd, Nat.reduceMul, Nat.add_zero, Nat.zero_add, Nat.mul_zero, not_true_eq_false, not_false_eq_true, false_implies, true_implies, hd]
  have e0 : (jaUI (σ 20) 70 0 0 (nI 0)).1 76 0 = e := by simp (disch := first | omega | decide) only [jaU_eq, jaU_U, nI_add, pk_mul, jaIx_nI, vp_inT, true_and, and_true, ↓jaO0, ↓jaO1, nI_z, nI_z2, nI_z3, nI_z4, nI_z5, nI_lt', nI_le', nI_eq', jaUI_at, jaPt_eq, jaPt_ne, jaUI_o, jaUI_2, jaUL_at, jaUL_o, jaUL_1, jaB_z, jaB_1, ↓jaB_01, Classical.not_not, and_self, true_or, or_true, nI_11, Nat.reduceEqDiff, Nat.reduceAdd, Nat.reduceMul, Nat.add_zero, Nat.zero_add, Nat.mul_zero, not_true_eq_false, not_false_eq_true, false_implies, true_implies, he]
  generalize hS : jaUI (σ 20) 70 0 0 (nI 0) = S at *
  have hO := hW.o.ord
  have hP := hW.o.pool.2
  have h24 := hW.o.many.2
  have M0 : (¬ ∃ q, q < jz s 34 ∧ x1 = nI q) → jaDe 12 jy_M_foreseen [jaMo, .inl x1, .inl x2] σ (jaKi fun b σ2 => (-1 : Int32) = b ∧ jI σ2) := by
    intro c
    apply js_M_foreseen
    simp only [hS]
    refine sp_M_isEntry (by omega) s0 hO.1 (by omega) ⟨fun z => ⟨trivial, hI0⟩, fun z => absurd (by rwa [jaB_z]) z⟩
  apply js_A_foreseen
  refine sp_A_isOrdered (by omega) hR hW ⟨fun y => M0 (by rwa [jaB_z] at y), fun y => ?_⟩
  rw [jaB_z, Classical.not_not] at y
  obtain ⟨i, hi, rfl⟩ := y
  have hid := hW.o.id hi
  have e41 : (σ 1).1 68 0 i = nI (jvId s i) := ((hR.o.2.2.1 i hi).1).trans hid.1
  have e41' : s (41 + i) = nI (jvId s i) := hid.1
  have hI5 : jvId s i < 64 := (hW.o.ids i hi).2
  obtain ⟨r1, -, -, -, r5⟩ := hR.e _ hid.2
  obtain ⟨t1, -, t3, -⟩ := hW.e _ hid.2
  have r1 : (σ 1).1 61 0 (jvId s i) = e (9 * jvId s i) := r1
  have r5 : ∀ j, j < jz d (133 * jz e (9 * jvId s i) + 2) → (σ 1).1 67 0 (4 * jvId s i + j) = e (9 * jvId s i + 5 + j) := r5
  have t1 : e (9 * jvId s i) = nI (jz e (9 * jvId s i)) ∧ jz e (9 * jvId s i) < jz s 32 := t1
  generalize hn : jz e (9 * jvId s i) = n at *
  obtain ⟨-, -, r57, -⟩ := hR.s.2 n t1.2
  obtain ⟨-, -, -, w4, -⟩ := hW.d n t1.2
  generalize hm : jz d (133 * n + 2) = m at *
  have r57 : (σ 1).1 57 0 n = nI m := r57.trans w4.1
  have M1 : ∀ v, (∀ j, j < m → x2 = nI j → v = e (9 * jvId s i + 5 + j)) → ((¬ ∃ j, j < m ∧ x2 = nI j) → v = -1) → jaDe 12 jy_M_foreseen [jaMo, .inl (nI i), .inl x2] σ (jaKi fun b σ2 => v = b ∧ jI σ2) := by
    intro v v1 v2
    apply js_M_foreseen
    simp only [hS]
    refine sp_M_isEntry (by omega) s0 hO.1 (by omega) ?_
    rw [jaB_t ⟨i, hi, rfl⟩]
    refine ⟨fun z => absurd z (by decide), fun _ => sp_M_idAt (by omega) s0 (by omega) ?_⟩
    rw [e41']
    have t1' := t1.1
    have w4' := w4.1
    simp (disch := first | omega | decide) only [jaU_eq, jaU_U, nI_add, pk_mul, jaIx_nI, vp_inT, true_and, and_true, ↓jaO0, ↓jaO1, nI_z, nI_z2, nI_z3, nI_z4, nI_z5, nI_lt', nI_le', nI_eq', jaUI_at, jaPt_eq, jaPt_ne, jaUI_o, jaUI_2, jaUL_at, jaUL_o, jaUL_1, jaB_z, jaB_1, ↓jaB_01, Classical.not_not, and_self, true_or, or_true, nI_11, Nat.reduceEqDiff, Nat.reduceAdd, Nat.reduceMul, Nat.add_zero, Nat.zero_add, Nat.mul_zero, not_true_eq_false, not_false_eq_true, false_implies, true_implies, e0, d0, t1', w4']
    refine sp_M_isIn (by omega) ?_
    rw [jaB_c (jxIn (by omega))]
    refine ⟨fun z => ?_, fun z => ?_⟩
    · rw [jaB_z, Classical.not_not] at z
      obtain ⟨j, j1, j2⟩ := z
      refine sp_M_idAt (by omega) s0 (by omega) ?_
      rw [e41', j2]
      have w5 := w4.2
      simp (disch := first | omega | decide) only [jaU_eq, jaU_U, nI_add, pk_mul, jaIx_nI, vp_inT, true_and, and_true, ↓jaO0, ↓jaO1, nI_z, nI_z2, nI_z3, nI_z4, nI_z5, nI_lt', nI_le', nI_eq', jaUI_at, jaPt_eq, jaPt_ne, jaUI_o, jaUI_2, jaUL_at, jaUL_o, jaUL_1, jaB_z, jaB_1, ↓jaB_01, Classical.not_not, and_self, true_or, or_true, nI_11, Nat.reduceEqDiff, Nat.reduceAdd, Nat.reduceMul, Nat.add_zero, Nat.zero_add, Nat.mul_zero, not_true_eq_false, not_false_eq_true, false_implies, true_implies, e0]
      exact ⟨v1 j j1 j2, hI0⟩
    · rw [jaB_z] at z
      exact ⟨v2 z, hI0⟩
  have t1' := t1.1
  simp (disch := first | omega | decide) only [jaU_eq, jaU_U, nI_add, pk_mul, jaIx_nI, vp_inT, true_and, and_true, ↓jaO0, ↓jaO1, nI_z, nI_z2, nI_z3, nI_z4, nI_z5, nI_lt', nI_le', nI_eq', jaUI_at, jaPt_eq, jaPt_ne, jaUI_o, jaUI_2, jaUL_at, jaUL_o, jaUL_1, jaB_z, jaB_1, ↓jaB_01, Classical.not_not, and_self, true_or, or_true, nI_11, Nat.reduceEqDiff, Nat.reduceAdd, Nat.reduceMul, Nat.add_zero, Nat.zero_add, Nat.mul_zero, not_true_eq_false, not_false_eq_true, false_implies, true_implies, e41, r1, t1', r57]
  by_cases c : ∃ j, j < m ∧ x2 = nI j
  · obtain ⟨j, j1, rfl⟩ := c
    have w5 := w4.2
    have r5j := r5 j j1
    rw [Nat.mul_comm 4] at r5j
    simp (disch := first | omega | decide) only [jaU_eq, jaU_U, nI_add, pk_mul, jaIx_nI, vp_inT, true_and, and_true, ↓jaO0, ↓jaO1, nI_z, nI_z2, nI_z3, nI_z4, nI_z5, nI_lt', nI_le', nI_eq', jaUI_at, jaPt_eq, jaPt_ne, jaUI_o, jaUI_2, jaUL_at, jaUL_o, jaUL_1, jaB_z, jaB_1, ↓jaB_01, Classical.not_not, and_self, true_or, or_true, nI_11, Nat.reduceEqDiff, Nat.reduceAdd, Nat.reduceMul, Nat.add_zero, Nat.zero_add, Nat.mul_zero, not_true_eq_false, not_false_eq_true, false_implies, true_implies, r5j]
    refine ⟨fun _ => ?_, fun z => absurd j1 z⟩
    refine M1 _ (fun j' h1 h2 => ?_) (fun z => absurd ⟨j, j1, rfl⟩ z)
    rw [nI_eq' (by omega) (by omega)] at h2
    rw [← h2]
  · have N := M1 (-1) (fun j h1 h2 => absurd ⟨j, h1, h2⟩ c) (fun _ => rfl)
    refine ⟨fun z => ⟨fun y => ?_, fun _ => N⟩, fun _ => N⟩
    refine absurd ((jxInC (N := m) (by omega) (x := x2)).mp ⟨?_, ?_⟩) c
    · rw [Int32.lt_iff_toInt_lt]
      rw [Int32.le_iff_toInt_le] at z
      omega
    · rw [Int32.le_iff_toInt_le]
      rw [Int32.lt_iff_toInt_lt] at y
      omega
end
