section
/-! the reference: what a SENTENCE says of a place -/
theorem sp_M_entriesOf {D : Nat} (hD : 1 ≤ D) {kk : Int32 → jaT → Prop} {σ : jaT} {S : jaS} {s e : jvA} {x : Int32} (hs : S.1 72 0 = s) (he : S.1 76 0 = e) (h33 : s 33 = nI (jz s 33)) (h64 : jz s 33 ≤ 64) (h : kk (nI (jaCnt (jvEo e x) (jz s 33))) (jaU σ 20 S)) : jaDe D jy_M_entriesOf [jaMo, .inl x] (jaU σ 20 S) (jaKi kk) := by
  obtain ⟨D, rfl, hD⟩ := jaSuc hD
  apply js_M_entriesOf
  refine jaFor (C := fun j => jc_M_entriesOf_1 D kk x (nI (jaCnt (jvEo e x) j)) (nI j) (jaU σ 20 S)) (N := jz s 33) ?_ (fun j hj ih => ?_)
  · apply jb_M_entriesOf_1
    simp (disch := first | omega | decide) only [jaU_eq, jaU_U, nI_add, pk_mul, jaIx_nI, vp_inT, true_and, and_true, ↓jaO0, ↓jaO1, nI_z, nI_z2, nI_z3, nI_z4, nI_z5, nI_lt', nI_le', nI_eq', jaUI_at, jaPt_eq, jaPt_ne, jaUI_o, jaUI_2, jaUL_at, jaUL_o, jaUL_1, jaB_z, jaB_1, ↓jaB_01, Classical.not_not, and_self, true_or, or_true, nI_11, Nat.reduceEqDiff, Nat.reduceAdd, Nat.reduceMul, Nat.add_zero, Nat.zero_add, Nat.mul_zero, not_true_eq_false, not_false_eq_true, false_implies, true_implies, hs]
    rw [h33]
    simp (disch := first | omega | decide) only [jaU_eq, jaU_U, nI_add, pk_mul, jaIx_nI, vp_inT, true_and, and_true, ↓jaO0, ↓jaO1, nI_z, nI_z2, nI_z3, nI_z4, nI_z5, nI_lt', nI_le', nI_eq', jaUI_at, jaPt_eq, jaPt_ne, jaUI_o, jaUI_2, jaUL_at, jaUL_o, jaUL_1, jaB_z, jaB_1, ↓jaB_01, Classical.not_not, and_self, true_or, or_true, nI_11, Nat.reduceEqDiff, Nat.reduceAdd, Nat.reduceMul, Nat.add_zero, Nat.zero_add, Nat.mul_zero, not_true_eq_false, not_false_eq_true, false_implies, true_implies]
    refine ⟨fun _ => ?_, fun q => absurd (by omega) q⟩
    exact h
  · apply jb_M_entriesOf_1
    simp (disch := first | omega | decide) only [jaU_eq, jaU_U, nI_add, pk_mul, jaIx_nI, vp_inT, true_and, and_true, ↓jaO0, ↓jaO1, nI_z, nI_z2, nI_z3, nI_z4, nI_z5, nI_lt', nI_le', nI_eq', jaUI_at, jaPt_eq, jaPt_ne, jaUI_o, jaUI_2, jaUL_at, jaUL_o, jaUL_1, jaB_z, jaB_1, ↓jaB_01, Classical.not_not, and_self, true_or, or_true, nI_11, Nat.reduceEqDiff, Nat.reduceAdd, Nat.reduceMul, Nat.add_zero, Nat.zero_add, Nat.mul_zero, not_true_eq_false, not_false_eq_true, false_implies, true_implies, hs, he]
    rw [h33]
    simp (disch := first | omega | decide) only [jaU_eq, jaU_U, nI_add, pk_mul, jaIx_nI, vp_inT, true_and, and_true, ↓jaO0, ↓jaO1, nI_z, nI_z2, nI_z3, nI_z4, nI_z5, nI_lt', nI_le', nI_eq', jaUI_at, jaPt_eq, jaPt_ne, jaUI_o, jaUI_2, jaUL_at, jaUL_o, jaUL_1, jaB_z, jaB_1, ↓jaB_01, Classical.not_not, and_self, true_or, or_true, nI_11, Nat.reduceEqDiff, Nat.reduceAdd, Nat.reduceMul, Nat.add_zero, Nat.zero_add, Nat.mul_zero, not_true_eq_false, not_false_eq_true, false_implies, true_implies]
    refine ⟨fun q => absurd q (by omega), fun _ => ?_⟩
    refine ⟨fun q => ?_, fun q => ?_⟩
    · rwa [jaCnt_f (p := jvEo e x) (show ¬ jvEo e x j from q)] at ih
    · rwa [jaCnt_t (p := jvEo e x) (show jvEo e x j from q)] at ih
set_option maxHeartbeats 2000000 in
theorem sp_M_isLeaf {D : Nat} (hD : 6 ≤ D) {kk : Int32 → jaT → Prop} {σ : jaT} {S : jaS} {s d e : jvA} {i : Nat} {c : jbY} (hs : S.1 72 0 = s) (he : S.1 76 0 = e) (hW : jW s d e) (hc : jgOk c) (hc12 : c.1 ≤ 12) (hi : i < jz s 34) (h : kk (jaB (jgLf s e i c)) (jaU σ 20 S)) : jaDe D jy_M_isLeaf [jaMo, .inl (nI i), .inl (nI c.1), .inl (nI c.2.1), .inl (nI c.2.2)] (jaU σ 20 S) (jaKi kk) := by
  have hO := hW.o.ord.2
  obtain ⟨w, sg, n⟩ := c
  have hc12 : w ≤ 12 := hc12
  obtain ⟨c1, c2, c3, c4⟩ := hc
  have c2 : n < 1000 := c2
  have c3 : (w = 7 ∨ w = 8) → n < 32 := c3
  have c4 : 10 ≤ w → w ≤ 12 → 60 ≤ sg ∧ sg ≤ 62 := c4
  have hid := hW.o.id hi
  have hP := hW.o.pool.2
  have hid2 : jvId s i < jz s 33 := hid.2
  have hid1 : s (41 + i) = nI (jvId s i) := hid.1
  have hwid : jWid s (i + 1) := fun q hq => hW.o.ids q (by omega)
  obtain ⟨D, rfl, hD⟩ := jaSuc hD
  unfold jgLf at h
  simp only [] at h
  have G : ∀ q : Prop, (q ↔ ((w < 5 ∧ s (175 + i) = nI w) ∨ (w = 5 ∧ jvRdy s e 0 i) ∨ (w = 6 ∧ jvWd s e i) ∨ (w = 7 ∧ jaBt (e (9 * jvId s i + 2)) n) ∨ (w = 8 ∧ jaBt (e (9 * jvId s i + 3)) n) ∨ (w = 9 ∧ e (9 * jvId s i + 1) = nI n) ∨ (w = 10 ∧ jgCmp (nI i) sg n) ∨ (w = 11 ∧ jgCmp (nI (jaCnt (jvEo e (e (9 * jvId s i))) (jz s 33))) sg n) ∨ (w = 12 ∧ jgCmp (e (9 * jvId s i)) sg n))) → kk (jaB q) (jaU σ 20 S) := fun q hq => by rw [jaB_c hq]; exact h
  have GH : ∀ q : Prop, (q ↔ ((w < 5 ∧ s (175 + i) = nI w) ∨ (w = 5 ∧ jvRdy s e 0 i) ∨ (w = 6 ∧ jvWd s e i) ∨ (w = 7 ∧ jaBt (e (9 * jvId s i + 2)) n) ∨ (w = 8 ∧ jaBt (e (9 * jvId s i + 3)) n) ∨ (w = 9 ∧ e (9 * jvId s i + 1) = nI n) ∨ (w = 10 ∧ jgCmp (nI i) sg n) ∨ (w = 11 ∧ jgCmp (nI (jaCnt (jvEo e (e (9 * jvId s i))) (jz s 33))) sg n) ∨ (w = 12 ∧ jgCmp (e (9 * jvId s i)) sg n))) → (¬ q → kk (nI 0) (jaU σ 20 S)) ∧ (q → kk (nI 1) (jaU σ 20 S)) := fun q hq => by
    have := jaB_h (G q hq)
    exact ⟨this.2, this.1⟩
  -- a comparison
  have CM : ∀ v : Int32, (60 ≤ sg ∧ sg ≤ 62) → (∀ q : Prop, (q ↔ jgCmp v sg n) → kk (jaB q) (jaU σ 20 S)) → (¬ nI sg = nI 60 → (¬ nI sg = nI 61 → (v ≤ nI n → ((nI 0) = 0 ∨ (nI 0) = 1) ∧ kk (nI 0) (jaU σ 20 S)) ∧ (¬ v ≤ nI n → ((nI 1) = 0 ∨ (nI 1) = 1) ∧ kk (nI 1) (jaU σ 20 S))) ∧ (nI sg = nI 61 → (¬ v = nI n → ((nI 0) = 0 ∨ (nI 0) = 1) ∧ kk (nI 0) (jaU σ 20 S)) ∧ (v = nI n → ((nI 1) = 0 ∨ (nI 1) = 1) ∧ kk (nI 1) (jaU σ 20 S)))) ∧ (nI sg = nI 60 → (nI n ≤ v → ((nI 0) = 0 ∨ (nI 0) = 1) ∧ kk (nI 0) (jaU σ 20 S)) ∧ (¬ nI n ≤ v → ((nI 1) = 0 ∨ (nI 1) = 1) ∧ kk (nI 1) (jaU σ 20 S))) := by
    intro v hsg T
    have t1 := T True
    have t0 := T False
    rw [jaB_t trivial] at t1
    rw [jaB_f (fun z => z)] at t0
    unfold jgCmp at t1 t0
    rw [nI_eq' (by omega) (by omega), nI_eq' (by omega) (by omega)]
    refine ⟨fun z => ⟨fun z2 => ⟨fun y => ⟨Or.inl rfl, t0 ⟨fun w => w.elim, fun w => ?_⟩⟩, fun y => ⟨Or.inr rfl, t1 ⟨fun _ => Or.inr (Or.inr ⟨by omega, Int32.not_le.mp y⟩), fun _ => trivial⟩⟩⟩, fun z2 => ⟨fun y => ⟨Or.inl rfl, t0 ⟨fun w => w.elim, fun w => ?_⟩⟩, fun y => ⟨Or.inr rfl, t1 ⟨fun _ => Or.inr (Or.inl ⟨z2, y⟩), fun _ => trivial⟩⟩⟩⟩, fun z => ⟨fun y => ⟨Or.inl rfl, t0 ⟨fun w => w.elim, fun w => ?_⟩⟩, fun y => ⟨Or.inr rfl, t1 ⟨fun _ => Or.inl ⟨z, Int32.not_le.mp y⟩, fun _ => trivial⟩⟩⟩⟩
    · rcases w with w | w | w
      · omega
      · omega
      · exact Int32.not_le.mpr w.2 y
    · rcases w with w | w | w
      · omega
      · exact y w.2
      · omega
    · rcases w with w | w | w
      · exact Int32.not_le.mpr w.2 y
      · omega
      · omega
  apply js_M_isLeaf
  by_cases q5 : w < 5
  · refine ⟨fun z => absurd z (by rw [nI_le' (by omega) (by omega)]; omega), fun _ => ?_⟩
    refine sp_M_howIn (by omega) hs (by omega) (by omega) ?_
    have := GH (s (175 + i) = nI w) (by
      constructor
      · exact fun y => Or.inl ⟨q5, y⟩
      · rintro (y | y | y | y | y | y | y | y | y)
        · exact y.2
        all_goals omega)
    rw [show 175 + 40 * 0 + i = 175 + i by omega]
    exact ⟨fun z => ⟨Or.inl rfl, this.1 z⟩, fun z => ⟨Or.inr rfl, this.2 z⟩⟩
  · refine ⟨fun _ => ?_, fun z => absurd (by rw [nI_le' (by omega) (by omega)]; omega) z⟩
    refine ⟨fun z => ⟨fun z10 => ⟨fun z11 => ?_, fun z11 => ?_⟩, fun z10 => ?_⟩, fun z => ?_, fun z => ?_, fun z => ?_, fun z => ?_, fun z => ?_, trivial⟩
    · rw [nI_toInt (by omega)] at z
      rw [nI_eq' (by omega) (by omega)] at z10 z11
      have wv : w = 12 := by omega
      refine sp_M_idAt (by omega) hs (by omega) ?_
      rw [hid1]
      simp (disch := first | omega | decide) only [jaU_eq, jaU_U, nI_add, pk_mul, jaIx_nI, vp_inT, true_and, and_true, ↓jaO0, ↓jaO1, nI_z, nI_z2, nI_z3, nI_z4, nI_z5, nI_lt', nI_le', nI_eq', jaUI_at, jaPt_eq, jaPt_ne, jaUI_o, jaUI_2, jaUL_at, jaUL_o, jaUL_1, jaB_z, jaB_1, ↓jaB_01, Classical.not_not, and_self, true_or, or_true, nI_11, Nat.reduceEqDiff, Nat.reduceAdd, Nat.reduceMul, Nat.add_zero, Nat.zero_add, Nat.mul_zero, not_true_eq_false, not_false_eq_true, false_implies, true_implies, he]
      have cm := CM (e (9 * jvId s i)) (c4 (by omega) (by omega)) (fun q hq => G q (by subst wv; rw [hq]; simp))
      simp (disch := first | omega | decide) only [jaU_eq, jaU_U, nI_add, pk_mul, jaIx_nI, vp_inT, true_and, and_true, ↓jaO0, ↓jaO1, nI_z, nI_z2, nI_z3, nI_z4, nI_z5, nI_lt', nI_le', nI_eq', jaUI_at, jaPt_eq, jaPt_ne, jaUI_o, jaUI_2, jaUL_at, jaUL_o, jaUL_1, jaB_z, jaB_1, ↓jaB_01, Classical.not_not, and_self, true_or, or_true, nI_11, Nat.reduceEqDiff, Nat.reduceAdd, Nat.reduceMul, Nat.add_zero, Nat.zero_add, Nat.mul_zero, not_true_eq_false, not_false_eq_true, false_implies, true_implies] at cm
      exact cm
    · rw [nI_eq' (by omega) (by omega)] at z11
      refine sp_M_idAt (by omega) hs (by omega) ?_
      rw [hid1]
      simp (disch := first | omega | decide) only [jaU_eq, jaU_U, nI_add, pk_mul, jaIx_nI, vp_inT, true_and, and_true, ↓jaO0, ↓jaO1, nI_z, nI_z2, nI_z3, nI_z4, nI_z5, nI_lt', nI_le', nI_eq', jaUI_at, jaPt_eq, jaPt_ne, jaUI_o, jaUI_2, jaUL_at, jaUL_o, jaUL_1, jaB_z, jaB_1, ↓jaB_01, Classical.not_not, and_self, true_or, or_true, nI_11, Nat.reduceEqDiff, Nat.reduceAdd, Nat.reduceMul, Nat.add_zero, Nat.zero_add, Nat.mul_zero, not_true_eq_false, not_false_eq_true, false_implies, true_implies, he]
      refine sp_M_entriesOf (by omega) hs he hW.o.pool.1 hP ?_
      have cm := CM (nI (jaCnt (jvEo e (e (9 * jvId s i))) (jz s 33))) (c4 (by omega) (by omega)) (fun q hq => G q (by subst z11; rw [hq]; simp))
      have hcl := jaCnt_le (p := jvEo e (e (9 * jvId s i))) (jz s 33)
      simp (disch := first | omega | decide) only [jaU_eq, jaU_U, nI_add, pk_mul, jaIx_nI, vp_inT, true_and, and_true, ↓jaO0, ↓jaO1, nI_z, nI_z2, nI_z3, nI_z4, nI_z5, nI_lt', nI_le', nI_eq', jaUI_at, jaPt_eq, jaPt_ne, jaUI_o, jaUI_2, jaUL_at, jaUL_o, jaUL_1, jaB_z, jaB_1, ↓jaB_01, Classical.not_not, and_self, true_or, or_true, nI_11, Nat.reduceEqDiff, Nat.reduceAdd, Nat.reduceMul, Nat.add_zero, Nat.zero_add, Nat.mul_zero, not_true_eq_false, not_false_eq_true, false_implies, true_implies] at cm
      (try simp (disch := first | omega | decide) only [jaU_eq, jaU_U, nI_add, pk_mul, jaIx_nI, vp_inT, true_and, and_true, ↓jaO0, ↓jaO1, nI_z, nI_z2, nI_z3, nI_z4, nI_z5, nI_lt', nI_le', nI_eq', jaUI_at, jaPt_eq, jaPt_ne, jaUI_o, jaUI_2, jaUL_at, jaUL_o, jaUL_1, jaB_z, jaB_1, ↓jaB_01, Classical.not_not, and_self, true_or, or_true, nI_11, Nat.reduceEqDiff, Nat.reduceAdd, Nat.reduceMul, Nat.add_zero, Nat.zero_add, Nat.mul_zero, not_true_eq_false, not_false_eq_true, false_implies, true_implies])
      exact cm
    · rw [nI_eq' (by omega) (by omega)] at z10
      exact CM (nI i) (c4 (by omega) (by omega)) (fun q hq => G q (by subst z10; rw [hq]; simp))
    · rw [nI_eq' (by omega) (by omega)] at z
      refine sp_M_isReady (by omega) hs he (by omega) (by omega) hwid ⟨of_eq_true jaB_01, G _ ?_⟩
      subst z
      simp
    · rw [nI_eq' (by omega) (by omega)] at z
      refine sp_M_isWide (by omega) hs he (by omega) hid1 (by omega) ⟨of_eq_true jaB_01, G _ ?_⟩
      subst z
      simp
    · rw [nI_eq' (by omega) (by omega)] at z
      refine sp_M_readsOf (by omega) hs he (by omega) hid1 (by omega) ?_
      refine sp_M_bitOf (by omega) ⟨of_eq_true jaB_01, G _ ?_⟩
      subst z
      simp
    · rw [nI_eq' (by omega) (by omega)] at z
      refine sp_M_writesOf (by omega) hs he (by omega) hid1 (by omega) ?_
      refine sp_M_bitOf (by omega) ⟨of_eq_true jaB_01, G _ ?_⟩
      subst z
      simp
    · rw [nI_eq' (by omega) (by omega)] at z
      refine sp_M_idAt (by omega) hs (by omega) ?_
      rw [hid1]
      simp (disch := first | omega | decide) only [jaU_eq, jaU_U, nI_add, pk_mul, jaIx_nI, vp_inT, true_and, and_true, ↓jaO0, ↓jaO1, nI_z, nI_z2, nI_z3, nI_z4, nI_z5, nI_lt', nI_le', nI_eq', jaUI_at, jaPt_eq, jaPt_ne, jaUI_o, jaUI_2, jaUL_at, jaUL_o, jaUL_1, jaB_z, jaB_1, ↓jaB_01, Classical.not_not, and_self, true_or, or_true, nI_11, Nat.reduceEqDiff, Nat.reduceAdd, Nat.reduceMul, Nat.add_zero, Nat.zero_add, Nat.mul_zero, not_true_eq_false, not_false_eq_true, false_implies, true_implies, he]
      refine GH _ ?_
      subst z
      simp
end
