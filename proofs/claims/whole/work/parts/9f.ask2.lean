section
/-! questions, on: class, then reference -/
theorem sp_A_isCopy {D : Nat} (hD : 1 ≤ D) {kk : Int32 → jaT → Prop} {σ : jaT} {x : Int32} {s d e : jvA} (hR : jR (σ 1) (s, d, e)) (hW : jW s d e) (h : kk (jaB (∃ q, q < jz s 2 ∧ x = nI q)) σ) : jaDe D jy_A_isCopy [jcA, .inl x] σ (jaKi kk) := by
  obtain ⟨D, rfl, hD⟩ := jaSuc hD
  have e1 := hR.w.1.2.2.1
  have w1 := hW.w.2.2.1.1
  have l1 := hW.w.2.2.1.2.2
  simp only [] at e1
  rw [← jaB_c (jxInC (by omega))] at h
  apply js_A_isCopy
  rw [e1, w1]
  refine ⟨fun a => ⟨Or.inl rfl, ?_⟩, fun a => ⟨fun b => ⟨Or.inl rfl, ?_⟩, fun b => ⟨Or.inr rfl, ?_⟩⟩⟩
  · rwa [jaB_f (fun z => z.1 a)] at h
  · rwa [jaB_f (fun z => z.2 b)] at h
  · rwa [jaB_t ⟨a, b⟩] at h

theorem sp_A_isKey {D : Nat} (hD : 1 ≤ D) {kk : Int32 → jaT → Prop} {σ : jaT} {x : Int32} {s d e : jvA} (hR : jR (σ 1) (s, d, e)) (hW : jW s d e) (h : kk (jaB (∃ q, q < jz s 1 ∧ x = nI q)) σ) : jaDe D jy_A_isKey [jcA, .inl x] σ (jaKi kk) := by
  obtain ⟨D, rfl, hD⟩ := jaSuc hD
  have e1 := hR.w.1.2.1
  have w1 := hW.w.2.1.1
  have l1 := hW.w.2.1.2
  simp only [] at e1
  rw [← jaB_c (jxInC (by omega))] at h
  apply js_A_isKey
  rw [e1, w1]
  refine ⟨fun a => ⟨Or.inl rfl, ?_⟩, fun a => ⟨fun b => ⟨Or.inl rfl, ?_⟩, fun b => ⟨Or.inr rfl, ?_⟩⟩⟩
  · rwa [jaB_f (fun z => z.1 a)] at h
  · rwa [jaB_f (fun z => z.2 b)] at h
  · rwa [jaB_t ⟨a, b⟩] at h

theorem sp_A_isOrdered {D : Nat} (hD : 1 ≤ D) {kk : Int32 → jaT → Prop} {σ : jaT} {x : Int32} {s d e : jvA} (hR : jR (σ 1) (s, d, e)) (hW : jW s d e) (h : kk (jaB (∃ q, q < jz s 34 ∧ x = nI q)) σ) : jaDe D jy_A_isOrdered [jcA, .inl x] σ (jaKi kk) := by
  obtain ⟨D, rfl, hD⟩ := jaSuc hD
  have e1 := hR.o.2.1
  have w1 := hW.o.ord.1
  have l1 := hW.o.ord.2
  simp only [] at e1
  rw [← jaB_c (jxInC (by omega))] at h
  apply js_A_isOrdered
  rw [e1, w1]
  refine ⟨fun a => ⟨Or.inl rfl, ?_⟩, fun a => ⟨fun b => ⟨Or.inl rfl, ?_⟩, fun b => ⟨Or.inr rfl, ?_⟩⟩⟩
  · rwa [jaB_f (fun z => z.1 a)] at h
  · rwa [jaB_f (fun z => z.2 b)] at h
  · rwa [jaB_t ⟨a, b⟩] at h
theorem jf_same : jFc jy_A_same jy_M_same [] := by
  intro σ hI
  have hR := hI.R
  have hW := hI.W
  have hI0 := jI_0 (v := nI 0) hI
  apply js_A_same
  refine jaAk (k := 1) (B := σ 1) (P := fun τ => jaDe 32 jy_St_isSame [jcSt 1] τ (jaKi fun r2 σ1 => (r2 = 0 → jaDe 12 jy_M_same [jaMo] σ1 (jaKi fun b σ2 => nI 0 = b ∧ jI σ2)) ∧ (¬ r2 = 0 → jaDe 12 jy_M_same [jaMo] σ1 (jaKi fun b σ2 => nI 1 = b ∧ jI σ2)))) rfl ?_
  refine sp_St_isSame (by omega) hR hW ?_
  rw [jaU_self]
  have M : ∀ v, (jvSame ((σ 20).1 72 0) → v = nI 1) → (¬ jvSame ((σ 20).1 72 0) → v = nI 0) → jaDe 12 jy_M_same [jaMo] σ (jaKi fun b σ2 => v = b ∧ jI σ2) := by
    intro v v1 v2
    apply js_M_same
    refine sp_M_areSame (s := (σ 20).1 72 0) (by omega) (by simp (disch := first | omega | decide) only [jaU_eq, jaU_U, nI_add, pk_mul, jaIx_nI, vp_inT, true_and, and_true, ↓jaO0, ↓jaO1, nI_z, nI_z2, nI_z3, nI_z4, nI_z5, nI_lt', nI_le', nI_eq', jaUI_at, jaPt_eq, jaPt_ne, jaUI_o, jaUI_2, jaUL_at, jaUL_o, jaUL_1, jaB_z, jaB_1, ↓jaB_01, Classical.not_not, and_self, true_or, or_true, nI_11, Nat.reduceEqDiff, Nat.reduceAdd, Nat.reduceMul, Nat.add_zero, Nat.zero_add, Nat.mul_zero, not_true_eq_false, not_false_eq_true, false_implies, true_implies]) hW ?_
    refine ⟨fun z => ?_, fun z => ?_⟩
    · rw [jaB_z] at z
      exact ⟨v2 z, hI0⟩
    · rw [jaB_z, Classical.not_not] at z
      exact ⟨v1 z, hI0⟩
  refine ⟨fun z => M _ (fun q => ?_) (fun _ => rfl), fun z => M _ (fun _ => rfl) (fun q => ?_)⟩
  · rw [jaB_z] at z
    exact absurd q z
  · rw [jaB_z] at z
    exact absurd q z
theorem jf_how {x1 x2 : Int32} : jFc jy_A_how jy_M_how [.inl x1, .inl x2] := by
  intro σ hI
  have hR := hI.R
  have hW := hI.W
  have hI0 := jI_0 (v := nI 0) hI
  generalize hs : (σ 20).1 72 0 = s at *
  generalize hd : (σ 20).1 75 0 = d at *
  generalize he : (σ 20).1 76 0 = e at *
  have s0 : (jaUI (σ 20) 70 0 0 (nI 0)).1 72 0 = s := by simp (disch := first | omega | decide) only [jaU_eq, jaU_U, nI_add, pk_mul, jaIx_nI, vp_inT, true_and, and_true, ↓jaO0, ↓jaO1, nI_z, nI_z2, nI_z3, nI_z4, nI_z5, nI_lt', nI_le', nI_eq', jaUI_at, jaPt_eq, jaPt_ne, jaUI_o, jaUI_2, jaUL_at, jaUL_o, jaUL_1, jaB_z, jaB_1, ↓jaB_01, Classical.not_not, and_self, true_or, or_true, nI_11, Nat.reduceEqDiff, Nat.reduceAdd, Nat.reduceMul, Nat.add_zero, Nat.zero_add, Nat.mul_zero, not_true_eq_false, not_false_eq_true, false_implies, true_implies, hs]
  have M0 : ((¬ ∃ q, q < jz s 2 ∧ x1 = nI q) ∨ ¬ ∃ q, q < jz s 34 ∧ x2 = nI q) → jaDe 12 jy_M_how [jaMo, .inl x1, .inl x2] σ (jaKi fun b σ2 => (-1 : Int32) = b ∧ jI σ2) := by
    intro c
    apply js_M_how
    refine sp_M_isCopy (by omega) s0 hW.w.2.2.1.1 (by have := hW.w.2.2.1.2; omega) ⟨fun _ => ⟨rfl, hI0⟩, fun z => sp_M_isEntry (by omega) s0 hW.o.ord.1 (by have := hW.o.ord.2; omega) ⟨fun _ => ⟨rfl, hI0⟩, fun y => ?_⟩⟩
    rw [jaB_z, Classical.not_not] at z y
    exact absurd c (by simp only [z, y, not_true_eq_false, or_self, not_false_eq_true])
  apply js_A_how
  refine sp_A_isCopy (by omega) hR hW ⟨fun z => M0 (Or.inl (by rwa [jaB_z] at z)), fun z => sp_A_isOrdered (by omega) hR hW ⟨fun y => M0 (Or.inr (by rwa [jaB_z] at y)), fun y => ?_⟩⟩
  rw [jaB_z, Classical.not_not] at z y
  obtain ⟨c, hc, rfl⟩ := z
  obtain ⟨i, hi, rfl⟩ := y
  have hc3 := hW.w.2.2.1.2.2
  have hi40 := hW.o.ord.2
  simp (disch := first | omega | decide) only [jaU_eq, jaU_U, nI_add, pk_mul, jaIx_nI, vp_inT, true_and, and_true, ↓jaO0, ↓jaO1, nI_z, nI_z2, nI_z3, nI_z4, nI_z5, nI_lt', nI_le', nI_eq', jaUI_at, jaPt_eq, jaPt_ne, jaUI_o, jaUI_2, jaUL_at, jaUL_o, jaUL_1, jaB_z, jaB_1, ↓jaB_01, Classical.not_not, and_self, true_or, or_true, nI_11, Nat.reduceEqDiff, Nat.reduceAdd, Nat.reduceMul, Nat.add_zero, Nat.zero_add, Nat.mul_zero, not_true_eq_false, not_false_eq_true, false_implies, true_implies]
  apply js_M_how
  refine sp_M_isCopy (by omega) s0 hW.w.2.2.1.1 (by omega) ?_
  rw [jaB_t ⟨c, hc, rfl⟩]
  refine ⟨fun z => absurd z (by decide), fun _ => sp_M_isEntry (by omega) s0 hW.o.ord.1 (by omega) ?_⟩
  rw [jaB_t ⟨i, hi, rfl⟩]
  refine ⟨fun z => absurd z (by decide), fun _ => sp_M_howIn (by omega) s0 (by omega) (by omega) ⟨(((hR.c c hc).2 i hi).1), hI0⟩⟩
theorem jf_waits {x1 x2 : Int32} : jFc jy_A_waits jy_M_waits [.inl x1, .inl x2] := by
  intro σ hI
  have hR := hI.R
  have hW := hI.W
  have hI0 := jI_0 (v := nI 0) hI
  generalize hs : (σ 20).1 72 0 = s at *
  generalize hd : (σ 20).1 75 0 = d at *
  generalize he : (σ 20).1 76 0 = e at *
  have s0 : (jaUI (σ 20) 70 0 0 (nI 0)).1 72 0 = s := by simp (disch := first | omega | decide) only [jaU_eq, jaU_U, nI_add, pk_mul, jaIx_nI, vp_inT, true_and, and_true, ↓jaO0, ↓jaO1, nI_z, nI_z2, nI_z3, nI_z4, nI_z5, nI_lt', nI_le', nI_eq', jaUI_at, jaPt_eq, jaPt_ne, jaUI_o, jaUI_2, jaUL_at, jaUL_o, jaUL_1, jaB_z, jaB_1, ↓jaB_01, Classical.not_not, and_self, true_or, or_true, nI_11, Nat.reduceEqDiff, Nat.reduceAdd, Nat.reduceMul, Nat.add_zero, Nat.zero_add, Nat.mul_zero, not_true_eq_false, not_false_eq_true, false_implies, true_implies, hs]
  have e0 : (jaUI (σ 20) 70 0 0 (nI 0)).1 76 0 = e := by simp (disch := first | omega | decide) only [jaU_eq, jaU_U, nI_add, pk_mul, jaIx_nI, vp_inT, true_and, and_true, ↓jaO0, ↓jaO1, nI_z, nI_z2, nI_z3, nI_z4, nI_z5, nI_lt', nI_le', nI_eq', jaUI_at, jaPt_eq, jaPt_ne, jaUI_o, jaUI_2, jaUL_at, jaUL_o, jaUL_1, jaB_z, jaB_1, ↓jaB_01, Classical.not_not, and_self, true_or, or_true, nI_11, Nat.reduceEqDiff, Nat.reduceAdd, Nat.reduceMul, Nat.add_zero, Nat.zero_add, Nat.mul_zero, not_true_eq_false, not_false_eq_true, false_implies, true_implies, he]
  have M0 : ((¬ ∃ q, q < jz s 2 ∧ x1 = nI q) ∨ ¬ ∃ q, q < jz s 34 ∧ x2 = nI q) → jaDe 12 jy_M_waits [jaMo, .inl x1, .inl x2] σ (jaKi fun b σ2 => (-1 : Int32) = b ∧ jI σ2) := by
    intro c
    apply js_M_waits
    refine sp_M_isCopy (by omega) s0 hW.w.2.2.1.1 (by have := hW.w.2.2.1.2; omega) ⟨fun _ => ⟨rfl, hI0⟩, fun z => sp_M_isEntry (by omega) s0 hW.o.ord.1 (by have := hW.o.ord.2; omega) ⟨fun y => ?_, fun _ => ⟨rfl, hI0⟩⟩⟩
    rw [jaB_z, Classical.not_not] at z y
    exact absurd c (by simp only [z, y, not_true_eq_false, or_self, not_false_eq_true])
  apply js_A_waits
  refine sp_A_isCopy (by omega) hR hW ⟨fun z => M0 (Or.inl (by rwa [jaB_z] at z)), fun z => sp_A_isOrdered (by omega) hR hW ⟨fun y => M0 (Or.inr (by rwa [jaB_z] at y)), fun y => ?_⟩⟩
  rw [jaB_z, Classical.not_not] at z y
  obtain ⟨c, hc, rfl⟩ := z
  obtain ⟨i, hi, rfl⟩ := y
  have hc3 := hW.w.2.2.1.2.2
  have hi40 := hW.o.ord.2
  refine jaAk (k := 1) (B := σ 1) (P := fun τ => jaDe 32 jy_St_countAwaited [jcSt 1, .inl (nI c), .inl (nI i)] τ (jaKi fun r6 σ5 => jaDe 12 jy_M_waits [jaMo, .inl (nI c), .inl (nI i)] σ5 (jaKi fun b σ2 => r6 = b ∧ jI σ2))) rfl ?_
  refine sp_St_countAwaited (by omega) hR hW hc hi ?_
  rw [jaU_self]
  apply js_M_waits
  refine sp_M_isCopy (by omega) s0 hW.w.2.2.1.1 (by omega) ?_
  rw [jaB_t ⟨c, hc, rfl⟩]
  refine ⟨fun z => absurd z (by decide), fun _ => sp_M_isEntry (by omega) s0 hW.o.ord.1 (by omega) ?_⟩
  rw [jaB_t ⟨i, hi, rfl⟩]
  refine ⟨fun _ => sp_M_howIn (by omega) s0 (by omega) (by omega) ⟨fun q => ⟨jaIf1_f q, hI0⟩, fun q => sp_M_aheadOf (by omega) s0 e0 (by omega) (by omega) (fun j hj => hW.o.ids j (by omega)) ⟨jaIf1_t q, hI0⟩⟩, fun z => absurd z (by decide)⟩
theorem jf_chain : jFc jy_A_chain jy_M_chain [] := by
  intro σ hI
  have hR := hI.R
  have hW := hI.W
  apply js_A_chain
  refine jaAk (k := 1) (B := σ 1) (P := fun τ => jaDe 32 jy_En_longestRow [jcEn 1, .inl (nI 1)] τ (jaKi fun r6 σ5 => jaDe 12 jy_M_chain [jaMo] σ5 (jaKi fun b σ2 => r6 = b ∧ jI σ2))) rfl ?_
  refine sp_En_longestRow' (w := fun i => jaIf1 (False ∧ jvLg ((σ 20).1 72 0) ((σ 20).1 76 0) i) (jz ((σ 20).1 72 0) 4) 0) (by omega) hR hW (by omega) (fun i hi => ?_) (fun i => ?_) (fun S' f => ?_)
  · rw [jaIf1_f (fun z => z.1)]
    by_cases z : jvWd ((σ 20).1 72 0) ((σ 20).1 76 0) i
    · rw [jaIf1_t z]
    · rw [jaIf1_f z]
  · rw [jaIf1_f (fun z => z.1)]
    omega
  · have h1 := jI_1 (S' := S') hI (fun o _ _ h69 => f.1 o (by simpa using h69)) f.2
    apply js_M_chain
    rw [show (nI 0 : Int32) = jaB False from (jaB_f id).symm]
    have hx : jaU σ 1 S' 20 = σ 20 := jaU_ne (by decide)
    refine sp_M_lays (s := (σ 20).1 72 0) (d := (σ 20).1 75 0) (e := (σ 20).1 76 0) (by omega) (by simp (disch := first | omega | decide) only [jaU_eq, jaU_U, nI_add, pk_mul, jaIx_nI, vp_inT, true_and, and_true, ↓jaO0, ↓jaO1, nI_z, nI_z2, nI_z3, nI_z4, nI_z5, nI_lt', nI_le', nI_eq', jaUI_at, jaPt_eq, jaPt_ne, jaUI_o, jaUI_2, jaUL_at, jaUL_o, jaUL_1, jaB_z, jaB_1, ↓jaB_01, Classical.not_not, and_self, true_or, or_true, nI_11, Nat.reduceEqDiff, Nat.reduceAdd, Nat.reduceMul, Nat.add_zero, Nat.zero_add, Nat.mul_zero, not_true_eq_false, not_false_eq_true, false_implies, true_implies, hx]) (by simp (disch := first | omega | decide) only [jaU_eq, jaU_U, nI_add, pk_mul, jaIx_nI, vp_inT, true_and, and_true, ↓jaO0, ↓jaO1, nI_z, nI_z2, nI_z3, nI_z4, nI_z5, nI_lt', nI_le', nI_eq', jaUI_at, jaPt_eq, jaPt_ne, jaUI_o, jaUI_2, jaUL_at, jaUL_o, jaUL_1, jaB_z, jaB_1, ↓jaB_01, Classical.not_not, and_self, true_or, or_true, nI_11, Nat.reduceEqDiff, Nat.reduceAdd, Nat.reduceMul, Nat.add_zero, Nat.zero_add, Nat.mul_zero, not_true_eq_false, not_false_eq_true, false_implies, true_implies, hx]) hW (fun S2 g => ⟨rfl, ?_⟩)
    exact jI_F h1 (by rw [hx]; exact g) (by decide) (by decide)
theorem jf_least : jFc jy_A_least jy_M_least [] := by
  intro σ hI
  have hR := hI.R
  have hW := hI.W
  have w4 := hW.w.2.2.2.2.1
  have e4 := hR.w.1.2.2.2.2
  simp only [] at e4
  apply js_A_least
  rw [e4, w4.1]
  simp (disch := first | omega | decide) only [jaU_eq, jaU_U, nI_add, pk_mul, jaIx_nI, vp_inT, true_and, and_true, ↓jaO0, ↓jaO1, nI_z, nI_z2, nI_z3, nI_z4, nI_z5, nI_lt', nI_le', nI_eq', jaUI_at, jaPt_eq, jaPt_ne, jaUI_o, jaUI_2, jaUL_at, jaUL_o, jaUL_1, jaB_z, jaB_1, ↓jaB_01, Classical.not_not, and_self, true_or, or_true, nI_11, Nat.reduceEqDiff, Nat.reduceAdd, Nat.reduceMul, Nat.add_zero, Nat.zero_add, Nat.mul_zero, not_true_eq_false, not_false_eq_true, false_implies, true_implies]
  refine jaAk (k := 1) (B := σ 1) (P := fun τ => jaDe 32 jy_En_longestRow [jcEn 1, .inl (nI (jz ((σ 20).1 72 0) 4 + 1))] τ (jaKi fun r6 σ5 => jaDe 12 jy_M_least [jaMo] σ5 (jaKi fun b σ2 => r6 = b ∧ jI σ2))) rfl ?_
  refine sp_En_longestRow' (w := fun i => jaIf1 (True ∧ jvLg ((σ 20).1 72 0) ((σ 20).1 76 0) i) (jz ((σ 20).1 72 0) 4) 0) (by omega) hR hW (by omega) (fun i hi => ?_) (fun i => ?_) (fun S' f => ?_)
  · have z4 : (σ 20).1 72 0 4 ≤ 0 ↔ jz ((σ 20).1 72 0) 4 = 0 := by
      rw [w4.1, show (0 : Int32) = nI 0 from rfl, nI_le' (by omega) (by omega)]
      omega
    by_cases z : jvWd ((σ 20).1 72 0) ((σ 20).1 76 0) i
    · rw [jaIf1_t z]
      by_cases y : (σ 20).1 72 0 4 ≤ 0
      · rw [jaIf1_f (fun v => v.2.2 y), z4.mp y]
      · rw [jaIf1_t ⟨trivial, z, y⟩]
    · rw [jaIf1_f z, jaIf1_f (fun v => z v.2.1)]
  · unfold jaIf1
    split <;> omega
  · have h1 := jI_1 (S' := S') hI (fun o _ _ h69 => f.1 o (by simpa using h69)) f.2
    apply js_M_least
    rw [show (nI 1 : Int32) = jaB True from (jaB_t trivial).symm]
    have hx : jaU σ 1 S' 20 = σ 20 := jaU_ne (by decide)
    refine sp_M_lays (s := (σ 20).1 72 0) (d := (σ 20).1 75 0) (e := (σ 20).1 76 0) (by omega) (by simp (disch := first | omega | decide) only [jaU_eq, jaU_U, nI_add, pk_mul, jaIx_nI, vp_inT, true_and, and_true, ↓jaO0, ↓jaO1, nI_z, nI_z2, nI_z3, nI_z4, nI_z5, nI_lt', nI_le', nI_eq', jaUI_at, jaPt_eq, jaPt_ne, jaUI_o, jaUI_2, jaUL_at, jaUL_o, jaUL_1, jaB_z, jaB_1, ↓jaB_01, Classical.not_not, and_self, true_or, or_true, nI_11, Nat.reduceEqDiff, Nat.reduceAdd, Nat.reduceMul, Nat.add_zero, Nat.zero_add, Nat.mul_zero, not_true_eq_false, not_false_eq_true, false_implies, true_implies, hx]) (by simp (disch := first | omega | decide) only [jaU_eq, jaU_U, nI_add, pk_mul, jaIx_nI, vp_inT, true_and, and_true, ↓jaO0, ↓jaO1, nI_z, nI_z2, nI_z3, nI_z4, nI_z5, nI_lt', nI_le', nI_eq', jaUI_at, jaPt_eq, jaPt_ne, jaUI_o, jaUI_2, jaUL_at, jaUL_o, jaUL_1, jaB_z, jaB_1, ↓jaB_01, Classical.not_not, and_self, true_or, or_true, nI_11, Nat.reduceEqDiff, Nat.reduceAdd, Nat.reduceMul, Nat.add_zero, Nat.zero_add, Nat.mul_zero, not_true_eq_false, not_false_eq_true, false_implies, true_implies, hx]) hW (fun S2 g => ⟨rfl, ?_⟩)
    exact jI_F h1 (by rw [hx]; exact g) (by decide) (by decide)
end
