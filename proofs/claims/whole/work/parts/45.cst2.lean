section
/-! a world begins -/
/-- the rows of the reference behind a new world h -/
noncomputable def jvW0 (s h : jvA) (j : Nat) : Int32 := jaIf1 (j < 31) (h j) (jaIf1 (145 ≤ j ∧ j < 175) (h (15 + (j - 145) % 10)) (jaIf1 (475 ≤ j ∧ j < 485) (h (15 + (j - 475))) (jaIf1 (j < 706) (nI 0) (s j))))
theorem jvW0_a {s h : jvA} {j : Nat} (hj : j < 31) : jvW0 s h j = h j := jaIf1_t hj
theorem jvW0_b {s h : jvA} {c q : Nat} (hc : c < 3) (hq : q < 10) : jvW0 s h (145 + 10 * c + q) = h (15 + q) := by
  unfold jvW0
  rw [jaIf1_f (by omega), jaIf1_t (by omega), show (145 + 10 * c + q - 145) % 10 = q by omega]
theorem jvW0_d {s h : jvA} {q : Nat} (hq : q < 10) : jvW0 s h (475 + q) = h (15 + q) := by
  unfold jvW0
  rw [jaIf1_f (by omega), jaIf1_f (by omega), jaIf1_t (by omega), show 475 + q - 475 = q by omega]
theorem jvW0_0 {s h : jvA} {j : Nat} (hj : (31 ≤ j ∧ j < 145) ∨ (175 ≤ j ∧ j < 475) ∨ (485 ≤ j ∧ j < 706)) : jvW0 s h j = nI 0 := by
  unfold jvW0
  rw [jaIf1_f (by omega), jaIf1_f (by omega), jaIf1_f (by omega), jaIf1_t (by omega)]
theorem jvW0_z {s h : jvA} {j : Nat} (hj : (31 ≤ j ∧ j < 145) ∨ (175 ≤ j ∧ j < 475) ∨ (485 ≤ j ∧ j < 706)) : jz (jvW0 s h) j = 0 := by
  rw [jz, jvW0_0 hj, jaIx_nI (by omega)]
theorem jvW0_n {s h : jvA} {j : Nat} (hj : (31 ≤ j ∧ j < 145) ∨ (175 ≤ j ∧ j < 475) ∨ (485 ≤ j ∧ j < 706)) : jvW0 s h j = nI (jz (jvW0 s h) j) := by
  rw [jvW0_z hj, jvW0_0 hj]
theorem jvW0_W {s h d e : jvA} (hw : jWw h) : jW (jvW0 s h) d e := by
  refine ⟨jWw_c (fun j hj => jvW0_a hj) hw, ?_, ?_, ⟨⟨jvW0_n (by omega), ?_⟩, jvW0_n (by omega), ⟨jvW0_n (by omega), ?_⟩, jvW0_n (by omega), ?_, ?_, ?_, ?_, ?_, ?_, ?_, fun i hi => ⟨?_, fun _ => jvW0_0 (by omega)⟩⟩, fun c i hc hi => ⟨⟨jvW0_n (by omega), ?_⟩, fun _ => jvW0_0 (by omega), fun q => ?_⟩, ⟨Or.inl ⟨jvW0_0 (by omega), jvW0_0 (by omega), jvW0_0 (by omega), jvW0_0 (by omega)⟩, ⟨jvW0_n (by omega), ?_⟩, ?_⟩, jvW0_n (by omega)⟩
  · intro n hn
    rw [jvW0_z (by omega)] at hn
    exact absurd hn (by omega)
  · intro n hn
    rw [jvW0_z (by omega)] at hn
    exact absurd hn (by omega)
  · rw [jvW0_z (by omega)]; omega
  · rw [jvW0_z (by omega)]; omega
  · rw [jvW0_z (by omega), jvW0_z (by omega), jvW0_z (by omega)]
  · rw [jvW0_z (by omega), jvW0_z (by omega), jvW0_z (by omega)]
    rfl
  · intro i hi
    rw [jvW0_z (by omega)] at hi
    exact absurd hi (by omega)
  · intro i hi
    rw [jvW0_z (by omega)] at hi
    exact absurd hi (by omega)
  · intro i j _ hi
    rw [jvW0_z (by omega)] at hi
    exact absurd hi (by omega)
  · intro i j _ hi
    rw [jvW0_z (by omega)] at hi
    exact absurd hi (by omega)
  · intro i j hi
    rw [jvW0_z (by omega)] at hi
    exact absurd hi (by omega)
  · exact Or.inl (jvW0_0 (by omega))
  · rw [jvW0_z (by omega)]; omega
  · rw [jvW0_0 (by omega)] at q
    exact absurd q (by decide)
  · rw [jvW0_z (by omega)]; omega
  · intro i hi
    rw [jvW0_z (by omega)] at hi
    exact absurd hi (by omega)
set_option maxHeartbeats 1000000 in
theorem sp_St_start {D : Nat} (hD : 2 ≤ D) {kk : jaT → Prop} {σ : jaT} {S T : jaS} {s h0 d e : jvA} {k k1 : Nat} (hk : k1 ≠ k) (hT : σ k1 = T) (hR : jRw T h0) (hw : jWw h0)
    (h : ∀ S', jR S' (jvW0 s h0, d, e) → S'.1 40 0 8 = S.1 40 0 8 → jcQl (S'.2 35 0) (T.2 35 0) 16 → kk (jaU σ k S')) :
    jaDe D jy_St_start [jcSt k, jcWo k1] (jaU σ k S) (jaKv kk) := by
  obtain ⟨D, rfl, hD⟩ := jaSuc hD
  obtain ⟨hK, hK'⟩ := hw.2.1
  obtain ⟨hC, hC1, hC3⟩ := hw.2.2.1
  apply js_St_start
  refine sp_Wo_copyFrom (by omega) hk hT hR.2.2.2 (fun S1 g1 w0 w1 w2 w3 w4 w5 => ?_)
  have k1' : S1.1 30 0 1 = nI (jz h0 1) := (w0 1 (by omega)).trans (hR.1.2.1.trans hK)
  have f2 : ∀ q, q < jz h0 1 → S1.1 32 0 q = h0 (15 + q) := fun q hq => (w2 q (by omega)).trans (hR.2.1 q hq).2
  simp only [jaU_eq, jaU_U]
  have L1 : ∀ S2, (∀ o, o ≠ 54 → o ≠ 60 → o ≠ 51 → S2.1 o = S1.1 o) → S2.2 = S1.2 → S2.1 54 0 0 = nI 0 → S2.1 60 0 0 = nI 0 → S2.1 60 0 1 = nI 0 → (∀ c, c < 3 → ∀ q, q < jz h0 1 → S2.1 51 c q = h0 (15 + q)) → jaDe D jy_Ck_start [jcCk k, jcWo k] (jaU σ k S2) (jaKv fun σ1 => kk (jaU σ1 k (jaUI (σ1 k) 40 0 5 (nI 0)))) := by
    intro S2 so l2 a54 a60 a61 a51
    obtain ⟨D, rfl, hD⟩ := jaSuc (show 1 ≤ D by omega)
    apply js_Ck_start
    simp (disch := first | omega | decide) only [jaU_eq, jaU_U, nI_add, pk_mul, jaIx_nI, vp_inT, true_and, and_true, ↓jaO0, ↓jaO1, nI_z, nI_z2, nI_z3, nI_z4, nI_z5, nI_lt', nI_le', nI_eq', jaUI_at, jaPt_eq, jaPt_ne, jaUI_o, jaUI_2, jaUL_at, jaUL_o, jaUL_1, jaB_z, jaB_1, ↓jaB_01, Classical.not_not, and_self, true_or, or_true, nI_11, Nat.reduceEqDiff, Nat.reduceAdd, Nat.reduceMul, Nat.add_zero, Nat.zero_add, Nat.mul_zero, not_true_eq_false, not_false_eq_true, false_implies, true_implies]
    refine jaFor (C := fun i => ∀ S', (∀ o, o ≠ 44 → o ≠ 47 → S'.1 o = S2.1 o) → S'.2 = S2.2 → S'.1 44 0 0 = nI 0 → S'.1 44 0 6 = nI 0 → (∀ q, q < i → S'.1 47 0 q = h0 (15 + q)) → jc_Ck_start_1 D (fun σ1 => kk (jaU σ1 k (jaUI (σ1 k) 40 0 5 (nI 0)))) k k (nI i) (jaU σ k S')) (N := jz h0 1) ?_ (fun i hi ih => ?_) _ (fun o h1 h2 => by rw [jaUI_o h1, jaUI_o h1]) rfl (by simp (disch := first | omega | decide) only [jaU_eq, jaU_U, nI_add, pk_mul, jaIx_nI, vp_inT, true_and, and_true, ↓jaO0, ↓jaO1, nI_z, nI_z2, nI_z3, nI_z4, nI_z5, nI_lt', nI_le', nI_eq', jaUI_at, jaPt_eq, jaPt_ne, jaUI_o, jaUI_2, jaUL_at, jaUL_o, jaUL_1, jaB_z, jaB_1, ↓jaB_01, Classical.not_not, and_self, true_or, or_true, nI_11, Nat.reduceEqDiff, Nat.reduceAdd, Nat.reduceMul, Nat.add_zero, Nat.zero_add, Nat.mul_zero, not_true_eq_false, not_false_eq_true, false_implies, true_implies]) (by simp (disch := first | omega | decide) only [jaU_eq, jaU_U, nI_add, pk_mul, jaIx_nI, vp_inT, true_and, and_true, ↓jaO0, ↓jaO1, nI_z, nI_z2, nI_z3, nI_z4, nI_z5, nI_lt', nI_le', nI_eq', jaUI_at, jaPt_eq, jaPt_ne, jaUI_o, jaUI_2, jaUL_at, jaUL_o, jaUL_1, jaB_z, jaB_1, ↓jaB_01, Classical.not_not, and_self, true_or, or_true, nI_11, Nat.reduceEqDiff, Nat.reduceAdd, Nat.reduceMul, Nat.add_zero, Nat.zero_add, Nat.mul_zero, not_true_eq_false, not_false_eq_true, false_implies, true_implies]) (fun _ q => absurd q (by omega))
    · intro S' o1 l1 b0 b6 b7
      have k1'' : S'.1 30 0 1 = nI (jz h0 1) := by rw [o1 30 (by decide) (by decide), so 30 (by decide) (by decide) (by decide)]; exact k1'
      apply jb_Ck_start_1
      simp (disch := first | omega | decide) only [jaU_eq, jaU_U, nI_add, pk_mul, jaIx_nI, vp_inT, true_and, and_true, ↓jaO0, ↓jaO1, nI_z, nI_z2, nI_z3, nI_z4, nI_z5, nI_lt', nI_le', nI_eq', jaUI_at, jaPt_eq, jaPt_ne, jaUI_o, jaUI_2, jaUL_at, jaUL_o, jaUL_1, jaB_z, jaB_1, ↓jaB_01, Classical.not_not, and_self, true_or, or_true, nI_11, Nat.reduceEqDiff, Nat.reduceAdd, Nat.reduceMul, Nat.add_zero, Nat.zero_add, Nat.mul_zero, not_true_eq_false, not_false_eq_true, false_implies, true_implies, k1'']
      refine ⟨fun _ => ?_, fun q => absurd (by omega) q⟩
      have G : ∀ o, o ≠ 40 → (jaUI S' 40 0 5 (nI 0)).1 o = S'.1 o := fun o ho => jaUI_o ho
      have GW : ∀ o, 30 ≤ o → o < 35 → (jaUI S' 40 0 5 (nI 0)).1 o = S1.1 o := fun o h1 h2 => (G o (by omega)).trans ((o1 o (by omega) (by omega)).trans (so o (by omega) (by omega) (by omega)))
      have z32 : jz (jvW0 s h0) 32 = 0 := jvW0_z (by omega)
      have z33 : jz (jvW0 s h0) 33 = 0 := jvW0_z (by omega)
      have z34 : jz (jvW0 s h0) 34 = 0 := jvW0_z (by omega)
      have z35 : jz (jvW0 s h0) 35 = 0 := jvW0_z (by omega)
      have z40 : jz (jvW0 s h0) 40 = 0 := jvW0_z (by omega)
      have z1 : jz (jvW0 s h0) 1 = jz h0 1 := jz_c (jvW0_a (by omega))
      have z2 : jz (jvW0 s h0) 2 = jz h0 2 := jz_c (jvW0_a (by omega))
      have e36 : jvW0 s h0 36 = nI 0 := jvW0_0 (by omega)
      have e40 : jvW0 s h0 40 = nI 0 := jvW0_0 (by omega)
      refine h _ ⟨?_, ⟨?_, fun n hn => ?_⟩, fun n hn => ?_, ⟨?_, ?_, fun n hn => ?_, fun n hn => ?_⟩, fun c hc => ⟨fun q hq => ?_, fun n hn => ?_⟩, ⟨?_, fun q => ?_, ?_, fun q hq => ?_, fun n hn => ?_⟩, ?_, fun n hn => ?_⟩ ?_ ?_
      · have hRW : jRw (jaUI S' 40 0 5 (nI 0)) h0 := by
          obtain ⟨⟨a0, a1, a2, a3, a4⟩, b, c, bb⟩ := hR
          unfold jRw
          rw [GW 30 (by decide) (by decide), GW 31 (by decide) (by decide), GW 32 (by decide) (by decide), GW 33 (by decide) (by decide), GW 34 (by decide) (by decide)]
          refine ⟨⟨(w0 0 (by omega)).trans a0, (w0 1 (by omega)).trans a1, (w0 2 (by omega)).trans a2, (w0 3 (by omega)).trans a3, (w0 4 (by omega)).trans a4⟩, fun q hq => ⟨(w1 q (by omega)).trans (b q hq).1, (w2 q (by omega)).trans (b q hq).2⟩, fun q hq => ⟨(w3 q (by omega)).trans (c q hq).1, (w4 q (by omega)).trans (c q hq).2⟩, fun q hq => by rw [w4 q hq]; exact bb q hq⟩
        exact jRw_c (fun j hj => jvW0_a hj) hw hRW
      · show (jaUI S' 40 0 5 (nI 0)).1 54 0 0 = jvW0 s h0 32
        rw [G 54 (by decide), o1 54 (by decide) (by decide), a54, jvW0_0 (by omega)]
      · have hn : n < jz (jvW0 s h0) 32 := hn
        rw [z32] at hn
        exact absurd hn (by omega)
      · have hn : n < jz (jvW0 s h0) 33 := hn
        rw [z33] at hn
        exact absurd hn (by omega)
      · show (jaUI S' 40 0 5 (nI 0)).1 60 0 0 = jvW0 s h0 33
        rw [G 60 (by decide), o1 60 (by decide) (by decide), a60, jvW0_0 (by omega)]
      · show (jaUI S' 40 0 5 (nI 0)).1 60 0 1 = jvW0 s h0 34
        rw [G 60 (by decide), o1 60 (by decide) (by decide), a61, jvW0_0 (by omega)]
      · have hn : n < jz (jvW0 s h0) 34 := hn
        rw [z34] at hn
        exact absurd hn (by omega)
      · have hn : n < jz (jvW0 s h0) 35 := hn
        rw [z35] at hn
        exact absurd hn (by omega)
      · have hc : c < jz (jvW0 s h0) 2 := hc
        have hq : q < jz (jvW0 s h0) 1 := hq
        rw [z2] at hc
        rw [z1] at hq
        show (jaUI S' 40 0 5 (nI 0)).1 51 c q = jvW0 s h0 (145 + 10 * c + q)
        rw [G 51 (by decide), o1 51 (by decide) (by decide), a51 c (by omega) q hq, jvW0_b (by omega) (by omega)]
      · have hn : n < jz (jvW0 s h0) 34 := hn
        rw [z34] at hn
        exact absurd hn (by omega)
      · show (jaUI S' 40 0 5 (nI 0)).1 44 0 0 = jvW0 s h0 36
        rw [G 44 (by decide), b0, e36]
      · have q : jvW0 s h0 36 = nI 1 := q
        rw [e36] at q
        exact absurd q (by decide)
      · show (jaUI S' 40 0 5 (nI 0)).1 44 0 6 = jvW0 s h0 40
        rw [G 44 (by decide), b6, e40]
      · have hq : q < jz (jvW0 s h0) 1 := hq
        rw [z1] at hq
        show (jaUI S' 40 0 5 (nI 0)).1 47 0 q = jvW0 s h0 (475 + q)
        rw [G 47 (by decide), b7 q hq, jvW0_d (by omega)]
      · have hn : n < jz (jvW0 s h0) 40 := hn
        rw [z40] at hn
        exact absurd hn (by omega)
      · show (jaUI S' 40 0 5 (nI 0)).1 40 0 5 = jvW0 s h0 31
        rw [jaUI_at, jaPt_eq, jvW0_0 (by omega)]
      · have hn : n < jz (jvW0 s h0) 33 := hn
        rw [z33] at hn
        exact absurd hn (by omega)
      · rw [jaUI_at, jaPt_ne (by decide), o1 40 (by decide) (by decide), so 40 (by decide) (by decide) (by decide), g1 40 (by decide)]
      · rw [jaUI_2, l1, l2]
        exact w5
    · intro S' o1 l1 b0 b6 b7
      have k1'' : S'.1 30 0 1 = nI (jz h0 1) := by rw [o1 30 (by decide) (by decide), so 30 (by decide) (by decide) (by decide)]; exact k1'
      have k2'' : S'.1 32 0 i = h0 (15 + i) := by rw [o1 32 (by decide) (by decide), so 32 (by decide) (by decide) (by decide)]; exact f2 i hi
      apply jb_Ck_start_1
      simp (disch := first | omega | decide) only [jaU_eq, jaU_U, nI_add, pk_mul, jaIx_nI, vp_inT, true_and, and_true, ↓jaO0, ↓jaO1, nI_z, nI_z2, nI_z3, nI_z4, nI_z5, nI_lt', nI_le', nI_eq', jaUI_at, jaPt_eq, jaPt_ne, jaUI_o, jaUI_2, jaUL_at, jaUL_o, jaUL_1, jaB_z, jaB_1, ↓jaB_01, Classical.not_not, and_self, true_or, or_true, nI_11, Nat.reduceEqDiff, Nat.reduceAdd, Nat.reduceMul, Nat.add_zero, Nat.zero_add, Nat.mul_zero, not_true_eq_false, not_false_eq_true, false_implies, true_implies, k1'', k2'']
      refine ⟨fun q => absurd q (by omega), fun _ => ?_⟩
      refine ih _ (fun o h1 h2 => by rw [jaUI_o h2]; exact o1 o h1 h2) l1 (by simp (disch := first | omega | decide) only [jaU_eq, jaU_U, nI_add, pk_mul, jaIx_nI, vp_inT, true_and, and_true, ↓jaO0, ↓jaO1, nI_z, nI_z2, nI_z3, nI_z4, nI_z5, nI_lt', nI_le', nI_eq', jaUI_at, jaPt_eq, jaPt_ne, jaUI_o, jaUI_2, jaUL_at, jaUL_o, jaUL_1, jaB_z, jaB_1, ↓jaB_01, Classical.not_not, and_self, true_or, or_true, nI_11, Nat.reduceEqDiff, Nat.reduceAdd, Nat.reduceMul, Nat.add_zero, Nat.zero_add, Nat.mul_zero, not_true_eq_false, not_false_eq_true, false_implies, true_implies, b0]) (by simp (disch := first | omega | decide) only [jaU_eq, jaU_U, nI_add, pk_mul, jaIx_nI, vp_inT, true_and, and_true, ↓jaO0, ↓jaO1, nI_z, nI_z2, nI_z3, nI_z4, nI_z5, nI_lt', nI_le', nI_eq', jaUI_at, jaPt_eq, jaPt_ne, jaUI_o, jaUI_2, jaUL_at, jaUL_o, jaUL_1, jaB_z, jaB_1, ↓jaB_01, Classical.not_not, and_self, true_or, or_true, nI_11, Nat.reduceEqDiff, Nat.reduceAdd, Nat.reduceMul, Nat.add_zero, Nat.zero_add, Nat.mul_zero, not_true_eq_false, not_false_eq_true, false_implies, true_implies, b6]) (fun q hq => ?_)
      by_cases z : q = i
      · rw [z]
        simp (disch := first | omega | decide) only [jaU_eq, jaU_U, nI_add, pk_mul, jaIx_nI, vp_inT, true_and, and_true, ↓jaO0, ↓jaO1, nI_z, nI_z2, nI_z3, nI_z4, nI_z5, nI_lt', nI_le', nI_eq', jaUI_at, jaPt_eq, jaPt_ne, jaUI_o, jaUI_2, jaUL_at, jaUL_o, jaUL_1, jaB_z, jaB_1, ↓jaB_01, Classical.not_not, and_self, true_or, or_true, nI_11, Nat.reduceEqDiff, Nat.reduceAdd, Nat.reduceMul, Nat.add_zero, Nat.zero_add, Nat.mul_zero, not_true_eq_false, not_false_eq_true, false_implies, true_implies]
      · rw [jaUI_at, jaPt_ne z]
        exact b7 q (by omega)
  refine jaFor (C := fun c => ∀ u S2, (∀ o, o ≠ 54 → o ≠ 60 → o ≠ 51 → S2.1 o = S1.1 o) → S2.2 = S1.2 → S2.1 54 0 0 = nI 0 → S2.1 60 0 0 = nI 0 → S2.1 60 0 1 = nI 0 → (∀ c', c' < c → ∀ q, q < jz h0 1 → S2.1 51 c' q = h0 (15 + q)) → jc_St_start_1 D kk k k1 (nI c) u (jaU σ k S2)) (N := 3) ?_ (fun c hc ih => ?_) _ _ (fun o h1 h2 h3 => by rw [jaUI_o h2, jaUI_o h2, jaUI_o h1]) rfl (by simp (disch := first | omega | decide) only [jaU_eq, jaU_U, nI_add, pk_mul, jaIx_nI, vp_inT, true_and, and_true, ↓jaO0, ↓jaO1, nI_z, nI_z2, nI_z3, nI_z4, nI_z5, nI_lt', nI_le', nI_eq', jaUI_at, jaPt_eq, jaPt_ne, jaUI_o, jaUI_2, jaUL_at, jaUL_o, jaUL_1, jaB_z, jaB_1, ↓jaB_01, Classical.not_not, and_self, true_or, or_true, nI_11, Nat.reduceEqDiff, Nat.reduceAdd, Nat.reduceMul, Nat.add_zero, Nat.zero_add, Nat.mul_zero, not_true_eq_false, not_false_eq_true, false_implies, true_implies]) (by simp (disch := first | omega | decide) only [jaU_eq, jaU_U, nI_add, pk_mul, jaIx_nI, vp_inT, true_and, and_true, ↓jaO0, ↓jaO1, nI_z, nI_z2, nI_z3, nI_z4, nI_z5, nI_lt', nI_le', nI_eq', jaUI_at, jaPt_eq, jaPt_ne, jaUI_o, jaUI_2, jaUL_at, jaUL_o, jaUL_1, jaB_z, jaB_1, ↓jaB_01, Classical.not_not, and_self, true_or, or_true, nI_11, Nat.reduceEqDiff, Nat.reduceAdd, Nat.reduceMul, Nat.add_zero, Nat.zero_add, Nat.mul_zero, not_true_eq_false, not_false_eq_true, false_implies, true_implies]) (by simp (disch := first | omega | decide) only [jaU_eq, jaU_U, nI_add, pk_mul, jaIx_nI, vp_inT, true_and, and_true, ↓jaO0, ↓jaO1, nI_z, nI_z2, nI_z3, nI_z4, nI_z5, nI_lt', nI_le', nI_eq', jaUI_at, jaPt_eq, jaPt_ne, jaUI_o, jaUI_2, jaUL_at, jaUL_o, jaUL_1, jaB_z, jaB_1, ↓jaB_01, Classical.not_not, and_self, true_or, or_true, nI_11, Nat.reduceEqDiff, Nat.reduceAdd, Nat.reduceMul, Nat.add_zero, Nat.zero_add, Nat.mul_zero, not_true_eq_false, not_false_eq_true, false_implies, true_implies]) (fun _ q => absurd q (by omega))
  · intro u S2 so l2 a54 a60 a61 a51
    apply jb_St_start_1
    simp (disch := first | omega | decide) only [jaU_eq, jaU_U, nI_add, pk_mul, jaIx_nI, vp_inT, true_and, and_true, ↓jaO0, ↓jaO1, nI_z, nI_z2, nI_z3, nI_z4, nI_z5, nI_lt', nI_le', nI_eq', jaUI_at, jaPt_eq, jaPt_ne, jaUI_o, jaUI_2, jaUL_at, jaUL_o, jaUL_1, jaB_z, jaB_1, ↓jaB_01, Classical.not_not, and_self, true_or, or_true, nI_11, Nat.reduceEqDiff, Nat.reduceAdd, Nat.reduceMul, Nat.add_zero, Nat.zero_add, Nat.mul_zero, not_true_eq_false, not_false_eq_true, false_implies, true_implies]
    refine ⟨fun _ => ?_, fun q => absurd (by omega) q⟩
    exact L1 S2 so l2 a54 a60 a61 a51
  · intro u S2 so l2 a54 a60 a61 a51
    apply jb_St_start_1
    simp (disch := first | omega | decide) only [jaU_eq, jaU_U, nI_add, pk_mul, jaIx_nI, vp_inT, true_and, and_true, ↓jaO0, ↓jaO1, nI_z, nI_z2, nI_z3, nI_z4, nI_z5, nI_lt', nI_le', nI_eq', jaUI_at, jaPt_eq, jaPt_ne, jaUI_o, jaUI_2, jaUL_at, jaUL_o, jaUL_1, jaB_z, jaB_1, ↓jaB_01, Classical.not_not, and_self, true_or, or_true, nI_11, Nat.reduceEqDiff, Nat.reduceAdd, Nat.reduceMul, Nat.add_zero, Nat.zero_add, Nat.mul_zero, not_true_eq_false, not_false_eq_true, false_implies, true_implies]
    refine ⟨fun q => absurd q (by omega), fun _ => ?_⟩
    refine jaFor (C := fun i => ∀ S2, (∀ o, o ≠ 54 → o ≠ 60 → o ≠ 51 → S2.1 o = S1.1 o) → S2.2 = S1.2 → S2.1 54 0 0 = nI 0 → S2.1 60 0 0 = nI 0 → S2.1 60 0 1 = nI 0 → (∀ c', c' < c → ∀ q, q < jz h0 1 → S2.1 51 c' q = h0 (15 + q)) → (∀ q, q < i → S2.1 51 c q = h0 (15 + q)) → jc_St_start_2 D kk k k1 (nI c) (nI i) (jaU σ k S2)) (N := jz h0 1) ?_ (fun i hi ih2 => ?_) S2 so l2 a54 a60 a61 a51 (fun _ q => absurd q (by omega))
    · intro S2 so l2 a54 a60 a61 a51 b51
      have k1'' : S2.1 30 0 1 = nI (jz h0 1) := by rw [so 30 (by decide) (by decide) (by decide)]; exact k1'
      apply jb_St_start_2
      simp (disch := first | omega | decide) only [jaU_eq, jaU_U, nI_add, pk_mul, jaIx_nI, vp_inT, true_and, and_true, ↓jaO0, ↓jaO1, nI_z, nI_z2, nI_z3, nI_z4, nI_z5, nI_lt', nI_le', nI_eq', jaUI_at, jaPt_eq, jaPt_ne, jaUI_o, jaUI_2, jaUL_at, jaUL_o, jaUL_1, jaB_z, jaB_1, ↓jaB_01, Classical.not_not, and_self, true_or, or_true, nI_11, Nat.reduceEqDiff, Nat.reduceAdd, Nat.reduceMul, Nat.add_zero, Nat.zero_add, Nat.mul_zero, not_true_eq_false, not_false_eq_true, false_implies, true_implies, k1'']
      refine ⟨fun _ => ?_, fun q => absurd (by omega) q⟩
      refine ih _ S2 so l2 a54 a60 a61 (fun c' hc' q hq => ?_)
      by_cases z : c' = c
      · rw [z]
        exact b51 q hq
      · exact a51 c' (by omega) q hq
    · intro S2 so l2 a54 a60 a61 a51 b51
      have k1'' : S2.1 30 0 1 = nI (jz h0 1) := by rw [so 30 (by decide) (by decide) (by decide)]; exact k1'
      have k2'' : S2.1 32 0 i = h0 (15 + i) := by rw [so 32 (by decide) (by decide) (by decide)]; exact f2 i hi
      apply jb_St_start_2
      simp (disch := first | omega | decide) only [jaU_eq, jaU_U, nI_add, pk_mul, jaIx_nI, vp_inT, true_and, and_true, ↓jaO0, ↓jaO1, nI_z, nI_z2, nI_z3, nI_z4, nI_z5, nI_lt', nI_le', nI_eq', jaUI_at, jaPt_eq, jaPt_ne, jaUI_o, jaUI_2, jaUL_at, jaUL_o, jaUL_1, jaB_z, jaB_1, ↓jaB_01, Classical.not_not, and_self, true_or, or_true, nI_11, Nat.reduceEqDiff, Nat.reduceAdd, Nat.reduceMul, Nat.add_zero, Nat.zero_add, Nat.mul_zero, not_true_eq_false, not_false_eq_true, false_implies, true_implies, k1'', k2'']
      refine ⟨fun q => absurd q (by omega), fun _ => ?_⟩
      refine ih2 _ (fun o h1 h2 h3 => by rw [jaUI_o h3]; exact so o h1 h2 h3) l2 (by rw [jaUI_o (by decide)]; exact a54) (by rw [jaUI_o (by decide)]; exact a60) (by rw [jaUI_o (by decide)]; exact a61) (fun c' hc' q hq => ?_) (fun q hq => ?_)
      · rw [jaUI_c (by omega)]
        exact a51 c' hc' q hq
      · by_cases z : q = i
        · rw [z]
          simp (disch := first | omega | decide) only [jaU_eq, jaU_U, nI_add, pk_mul, jaIx_nI, vp_inT, true_and, and_true, ↓jaO0, ↓jaO1, nI_z, nI_z2, nI_z3, nI_z4, nI_z5, nI_lt', nI_le', nI_eq', jaUI_at, jaPt_eq, jaPt_ne, jaUI_o, jaUI_2, jaUL_at, jaUL_o, jaUL_1, jaB_z, jaB_1, ↓jaB_01, Classical.not_not, and_self, true_or, or_true, nI_11, Nat.reduceEqDiff, Nat.reduceAdd, Nat.reduceMul, Nat.add_zero, Nat.zero_add, Nat.mul_zero, not_true_eq_false, not_false_eq_true, false_implies, true_implies]
        · rw [jaUI_at, jaPt_ne z]
          exact b51 q (by omega)
end
