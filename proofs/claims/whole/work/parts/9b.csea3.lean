section
/-! the class: so -/
/-- rows, one ENTRY more each -/
noncomputable abbrev jfR (s d e : jvA) : Nat → jvA := jvSr s d e (fun q => s (15 + q))
set_option maxHeartbeats 2000000 in
theorem sp_Se_find {D : Nat} (hD : 6 ≤ D) {kk : Int32 → jaT → Prop} {τ : jaT} {s d e : jvA} {c : Nat → Nat} {k n : Nat} (hk : k ≠ 0) (hR : jR (τ k) (s, d, e)) (hW : jW s d e) (hn : n ≤ 940) (hc : ∀ j, j < n → (τ 0).1 1 0 j = nI (c j) ∧ c j < 256)
    (h0 : ¬ jfTo c n (jz s 1) → kk (-1) τ)
    (h : jfTo c n (jz s 1) → ∀ L, L = jfL (fun i => jfSo (jfR s d e i) c n) (jz s 34 + 1) → ∀ τ', jfF k τ τ' → jfC (τ' 0) (jfR s d e) (jz s 1) L → (τ' 0).1 16 0 2 = jaIf1 (L.length = 0) ((τ 0).1 16 0 2) (nI (jfAk (fun k => jfMx (jfV (jfR s d e) L) L.length k L.length) (jz s 1))) → kk (nI L.length) τ') :
    jaDe D jy_Se_find [.inr (.inr (16, 0, 0)), jcSt k, .inr (.inr (1, 0, 0)), .inl (nI n)] τ (jaKi kk) := by
  obtain ⟨hK, hK10⟩ := hW.w.2.1
  have hO := hW.o.ord
  obtain ⟨D, rfl, hD⟩ := jaSuc hD
  apply js_Se_find
  refine sp_Se_isTold (by omega) hn hc (hR.w.1.2.1.trans hK) hK10 ?_
  simp (disch := first | omega | decide) only [jaU_eq, jaU_U, nI_add, pk_mul, jaIx_nI, vp_inT, true_and, and_true, ↓jaO0, ↓jaO1, nI_z, nI_z2, nI_z3, nI_z4, nI_z5, nI_lt', nI_le', nI_eq', jaUI_at, jaPt_eq, jaPt_ne, jaUI_o, jaUI_2, jaUL_at, jaUL_o, jaUL_1, jaB_z, jaB_1, ↓jaB_01, Classical.not_not, and_self, true_or, or_true, nI_11, Nat.reduceEqDiff, Nat.reduceAdd, Nat.reduceMul, Nat.add_zero, Nat.zero_add, Nat.mul_zero, not_true_eq_false, not_false_eq_true, false_implies, true_implies]
  refine ⟨fun q => ?_, fun q => h0 q⟩
  have h := h q
  have f1 : jfF k τ (jaU τ 0 (jaUI (τ 0) 16 0 0 (nI 0))) := jfF.u hk jfF.rfl (by decide) (by decide)
  have e1 : ((jaU τ 0 (jaUI (τ 0) 16 0 0 (nI 0))) 0).1 16 0 0 = nI 0 := by
    rw [jaU_eq]
    simp (disch := first | omega | decide) only [jaU_eq, jaU_U, nI_add, pk_mul, jaIx_nI, vp_inT, true_and, and_true, ↓jaO0, ↓jaO1, nI_z, nI_z2, nI_z3, nI_z4, nI_z5, nI_lt', nI_le', nI_eq', jaUI_at, jaPt_eq, jaPt_ne, jaUI_o, jaUI_2, jaUL_at, jaUL_o, jaUL_1, jaB_z, jaB_1, ↓jaB_01, Classical.not_not, and_self, true_or, or_true, nI_11, Nat.reduceEqDiff, Nat.reduceAdd, Nat.reduceMul, Nat.add_zero, Nat.zero_add, Nat.mul_zero, not_true_eq_false, not_false_eq_true, false_implies, true_implies]
  have b1 : ((jaU τ 0 (jaUI (τ 0) 16 0 0 (nI 0))) 0).1 16 0 2 = (τ 0).1 16 0 2 := by
    rw [jaU_eq]
    simp (disch := first | omega | decide) only [jaU_eq, jaU_U, nI_add, pk_mul, jaIx_nI, vp_inT, true_and, and_true, ↓jaO0, ↓jaO1, nI_z, nI_z2, nI_z3, nI_z4, nI_z5, nI_lt', nI_le', nI_eq', jaUI_at, jaPt_eq, jaPt_ne, jaUI_o, jaUI_2, jaUL_at, jaUL_o, jaUL_1, jaB_z, jaB_1, ↓jaB_01, Classical.not_not, and_self, true_or, or_true, nI_11, Nat.reduceEqDiff, Nat.reduceAdd, Nat.reduceMul, Nat.add_zero, Nat.zero_add, Nat.mul_zero, not_true_eq_false, not_false_eq_true, false_implies, true_implies]
  generalize jaU τ 0 (jaUI (τ 0) 16 0 0 (nI 0)) = τ1 at *
  refine sp_St_beginSerially_18 (by omega) hk (f1.r hR) hW (fun τ2 f2 g2 a2 => ?_)
  have F2 := f1.trans f2
  have HC : ∀ τ', jfF k τ τ' → ∀ j, j < n → (τ' 0).1 1 0 j = nI (c j) ∧ c j < 256 := fun τ' f j hj => by
    rw [f.2.2.1 1 (by omega)]; exact hc j hj
  have C2 : jfC (τ2 0) (jfR s d e) (jz s 1) [] := by
    refine ⟨?_, fun j q hq => (by cases hq), fun q hq => absurd hq List.not_mem_nil⟩
    rw [g2 16 (by decide) (by decide) (by decide)]
    exact e1
  have B2 : (τ2 0).1 16 0 2 = (τ 0).1 16 0 2 := by rw [g2 16 (by decide) (by decide) (by decide)]; exact b1
  refine sp_Se_noteIfSo (q := 0) (R := jfR s d e) (L := []) (K := jz s 1) (by omega) hk q (HC τ2 F2) hK10 (fun i hi => a2 i hi) C2 (Nat.zero_le _) (by omega) (fun τ3 C3 f3 e3 b3 => ?_)
  have e18 : ∀ i, i < jz s 1 → (τ3 0).1 18 0 i = jfR s d e 0 i := fun i hi => by rw [e3]; exact a2 i hi
  have LP : ∀ m i τ4, i + m = jz s 34 → jfF k τ τ4 → jfC (τ4 0) (jfR s d e) (jz s 1) (jfL (fun i => jfSo (jfR s d e i) c n) (i + 1)) → (∀ q, q < jz s 1 → (τ4 0).1 18 0 q = jfR s d e i q) → (τ4 0).1 16 0 2 = (τ 0).1 16 0 2 → jc_Se_find_2 D kk k (nI n) (nI i) τ4 := by
    intro m
    induction m with
    | zero =>
      intro i τ4 hi f C r18 b4
      have hi2 : i = jz s 34 := by omega
      subst hi2
      have o60 : (τ4 k).1 60 0 1 = nI (jz s 34) := (f.r hR).o.2.1.trans hO.1
      have hll := jfL_l (so := fun i => jfSo (jfR s d e i) c n) (jz s 34 + 1)
      have h := h _ rfl
      have C1 := C.1
      have w1 : (τ4 k).1 30 0 1 = nI (jz s 1) := (f.r hR).w.1.2.1.trans hK
      have K1 : 1 ≤ jz s 1 := by
        have := q.2.2.2 0 (by have := q.1; omega)
        omega
      generalize jfL (fun i => jfSo (jfR s d e i) c n) (jz s 34 + 1) = L at *
      apply jb_Se_find_2
      simp (disch := first | omega | decide) only [jaU_eq, jaU_U, nI_add, pk_mul, jaIx_nI, vp_inT, true_and, and_true, ↓jaO0, ↓jaO1, nI_z, nI_z2, nI_z3, nI_z4, nI_z5, nI_lt', nI_le', nI_eq', jaUI_at, jaPt_eq, jaPt_ne, jaUI_o, jaUI_2, jaUL_at, jaUL_o, jaUL_1, jaB_z, jaB_1, ↓jaB_01, Classical.not_not, and_self, true_or, or_true, nI_11, Nat.reduceEqDiff, Nat.reduceAdd, Nat.reduceMul, Nat.add_zero, Nat.zero_add, Nat.mul_zero, not_true_eq_false, not_false_eq_true, false_implies, true_implies, o60, C1, w1]
      refine ⟨fun _ => ?_, fun q => absurd (by omega) q⟩
      refine ⟨fun z => ?_, fun z => ?_⟩
      · rw [jaIf1_t z] at h
        exact h τ4 f C b4
      · refine sp_Se_chooseKey (by omega) C (by have := hO.2; omega) hK10 K1 ?_
        rw [jaIf1_f z] at h
        simp (disch := first | omega | decide) only [jaU_eq, jaU_U, nI_add, pk_mul, jaIx_nI, vp_inT, true_and, and_true, ↓jaO0, ↓jaO1, nI_z, nI_z2, nI_z3, nI_z4, nI_z5, nI_lt', nI_le', nI_eq', jaUI_at, jaPt_eq, jaPt_ne, jaUI_o, jaUI_2, jaUL_at, jaUL_o, jaUL_1, jaB_z, jaB_1, ↓jaB_01, Classical.not_not, and_self, true_or, or_true, nI_11, Nat.reduceEqDiff, Nat.reduceAdd, Nat.reduceMul, Nat.add_zero, Nat.zero_add, Nat.mul_zero, not_true_eq_false, not_false_eq_true, false_implies, true_implies, C1]
        refine h _ (f.u hk (by decide) (by decide)) ⟨?_, fun j y hy => ?_, C.2.2⟩ ?_
        · rw [jaU_eq, jaUI_at, jaPt_ne (by decide)]; exact C1
        · rw [jaU_eq, jaUI_o (by decide), jaUI_o (by decide)]; exact C.2.1 j y hy
        · rw [jaU_eq, jaUI_at, jaPt_eq]
    | succ m ih =>
      intro i τ4 hi f C r18 b4
      have o60 : (τ4 k).1 60 0 1 = nI (jz s 34) := (f.r hR).o.2.1.trans hO.1
      have hll := jfL_l (so := fun i => jfSo (jfR s d e i) c n) (i + 1)
      apply jb_Se_find_2
      simp (disch := first | omega | decide) only [jaU_eq, jaU_U, nI_add, pk_mul, jaIx_nI, vp_inT, true_and, and_true, ↓jaO0, ↓jaO1, nI_z, nI_z2, nI_z3, nI_z4, nI_z5, nI_lt', nI_le', nI_eq', jaUI_at, jaPt_eq, jaPt_ne, jaUI_o, jaUI_2, jaUL_at, jaUL_o, jaUL_1, jaB_z, jaB_1, ↓jaB_01, Classical.not_not, and_self, true_or, or_true, nI_11, Nat.reduceEqDiff, Nat.reduceAdd, Nat.reduceMul, Nat.add_zero, Nat.zero_add, Nat.mul_zero, not_true_eq_false, not_false_eq_true, false_implies, true_implies, o60]
      refine ⟨fun q => absurd q (by omega), fun _ => ?_⟩
      refine sp_St_runSerially_18 (r := jfR s d e i) (by omega) hk (f.r hR) hW (by omega) r18 (fun τ5 f5 g5 a5 => ?_)
      have F5 := f.trans f5
      have C5 : jfC (τ5 0) (jfR s d e) (jz s 1) (jfL (fun i => jfSo (jfR s d e i) c n) (i + 1)) := by
        refine ⟨?_, fun j y hy => ?_, C.2.2⟩
        · rw [g5 16 (by decide) (by decide) (by decide)]; exact C.1
        · rw [g5 17 (by decide) (by decide) (by decide), g5 19 (by decide) (by decide) (by decide)]; exact C.2.1 j y hy
      have r5 : ∀ q, q < jz s 1 → (τ5 0).1 18 0 q = jfR s d e (i + 1) q := fun y hy => a5 y hy
      refine sp_Se_noteIfSo (q := i + 1) (R := jfR s d e) (K := jz s 1) (by omega) hk q (HC τ5 F5) hK10 r5 C5 (by have := hO.2; omega) (by have := hO.2; omega) (fun τ6 C6 f6 e6 b6 => ?_)
      refine ih (i + 1) τ6 (by omega) (F5.trans f6) C6 (fun y hy => by rw [e6]; exact r5 y hy) ?_
      rw [b6, g5 16 (by decide) (by decide) (by decide)]
      exact b4
  refine LP (jz s 34) 0 τ3 (by omega) (F2.trans f3) C3 e18 ?_
  rw [b3]
  exact B2
end
