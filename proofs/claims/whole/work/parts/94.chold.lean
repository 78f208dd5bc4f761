section
/-! the class: what a SENTENCE says of a place -/
def jgT0 (T : jaS) (l : List jbY) : Prop := T.1 20 0 2 = nI l.length ∧ ∀ (j : Nat) (c : jbY), l[j]? = some c → T.1 21 0 j = nI (jgKi c.1) ∧ T.1 22 0 j = nI c.2.1 ∧ T.1 23 0 j = nI c.2.2
theorem jaB_h {kk : Int32 → jaT → Prop} {τ : jaT} {p : Prop} (h : kk (jaB p) τ) : (p → kk (nI 1) τ) ∧ (¬ p → kk (nI 0) τ) := ⟨fun q => by rwa [jaB_t q] at h, fun q => by rwa [jaB_f q] at h⟩
set_option maxHeartbeats 2000000 in
theorem sp_Sn_isSo {D : Nat} (hD : 3 ≤ D) {kk : Int32 → jaT → Prop} {τ : jaT} {s d e : jvA} {k p i : Nat} {c : jbY} (hp : p < 40) (h1 : (τ k).1 21 0 p = nI (jgKi c.1)) (h2 : (τ k).1 22 0 p = nI c.2.1) (h3 : (τ k).1 23 0 p = nI c.2.2) (hc : jgOk c) (hc12 : c.1 ≤ 12) (hR : jR (τ 1) (s, d, e)) (hW : jW s d e) (hi : i < jz s 34)
    (h : kk (jaB (jgLf s e i c)) τ) : jaDe D jy_Sn_isSo [jcSn k, .inl (nI p), jcSt 1, .inl (nI i), .inl (jaB (jvRdy s e 0 i))] τ (jaKi kk) := by
  have hO := hW.o.ord.2
  have hC0 : 0 < jz s 2 := hW.w.2.2.1.2.1
  obtain ⟨w, sg, n⟩ := c
  have hc12 : w ≤ 12 := hc12
  obtain ⟨c1, c2, c3, c4⟩ := hc
  have c2 : n < 1000 := c2
  have c3 : (w = 7 ∨ w = 8) → n < 32 := c3
  have c4 : 10 ≤ w → w ≤ 12 → 60 ≤ sg ∧ sg ≤ 62 := c4
  have h1 : (τ k).1 21 0 p = nI (116 + w) := by
    rw [h1]
    unfold jgKi
    rw [if_neg (show ¬ w = 20 by omega), if_neg (show ¬ w = 21 by omega), if_neg (show ¬ w = 22 by omega)]
  have h2 : (τ k).1 22 0 p = nI sg := h2
  have h3 : (τ k).1 23 0 p = nI n := h3
  have ho := (hR.o.2.2.1 i hi).1
  have hid := hW.o.id hi
  have hP := hW.o.pool.2
  have hid2 : jvId s i < jz s 33 := hid.2
  obtain ⟨r1, r2, r3, r4, r5⟩ := hR.e (jvId s i) hid.2
  have hv := ((hR.c 0 hC0).2 i hi).1
  have e52 : (τ 1).1 52 0 i = s (175 + i) := by
    rw [hv]
  have e68 : (τ 1).1 68 0 i = nI (jvId s i) := ho.trans hid.1
  have hwc := (hW.c 0 i (by omega) (by omega)).1
  have e175 : s (175 + i) = nI (jz s (175 + i)) := by
    have := hwc.1
    rwa [show 175 + 40 * 0 + i = 175 + i by omega] at this
  have b175 : jz s (175 + i) ≤ 4 := by
    have := hwc.2
    rwa [show 175 + 40 * 0 + i = 175 + i by omega] at this
  have eWi := hW.e (jvId s i) hid.2
  have tr : e (9 * jvId s i) = nI (jz e (9 * jvId s i)) := eWi.1.1
  obtain ⟨D, rfl, hD⟩ := jaSuc hD
  unfold jgLf at h
  simp only [] at h
  obtain ⟨t1, t0⟩ := jaB_h h
  have G : ∀ q : Prop, (q ↔ ((w < 5 ∧ s (175 + i) = nI w) ∨ (w = 5 ∧ jvRdy s e 0 i) ∨ (w = 6 ∧ jvWd s e i) ∨ (w = 7 ∧ jaBt (e (9 * jvId s i + 2)) n) ∨ (w = 8 ∧ jaBt (e (9 * jvId s i + 3)) n) ∨ (w = 9 ∧ e (9 * jvId s i + 1) = nI n) ∨ (w = 10 ∧ jgCmp (nI i) sg n) ∨ (w = 11 ∧ jgCmp (nI (jaCnt (jvEo e (e (9 * jvId s i))) (jz s 33))) sg n) ∨ (w = 12 ∧ jgCmp (e (9 * jvId s i)) sg n))) → kk (jaB q) τ := fun q hq => by rw [jaB_c hq]; exact h
  have GH : ∀ q : Prop, (q ↔ ((w < 5 ∧ s (175 + i) = nI w) ∨ (w = 5 ∧ jvRdy s e 0 i) ∨ (w = 6 ∧ jvWd s e i) ∨ (w = 7 ∧ jaBt (e (9 * jvId s i + 2)) n) ∨ (w = 8 ∧ jaBt (e (9 * jvId s i + 3)) n) ∨ (w = 9 ∧ e (9 * jvId s i + 1) = nI n) ∨ (w = 10 ∧ jgCmp (nI i) sg n) ∨ (w = 11 ∧ jgCmp (nI (jaCnt (jvEo e (e (9 * jvId s i))) (jz s 33))) sg n) ∨ (w = 12 ∧ jgCmp (e (9 * jvId s i)) sg n))) → (¬ q → kk (nI 0) τ) ∧ (q → kk (nI 1) τ) := fun q hq => by
    have := jaB_h (G q hq)
    exact ⟨this.2, this.1⟩
  apply js_Sn_isSo
  simp (disch := first | omega | decide) only [jaU_eq, jaU_U, nI_add, pk_mul, jaIx_nI, vp_inT, true_and, and_true, ↓jaO0, ↓jaO1, nI_z, nI_z2, nI_z3, nI_z4, nI_z5, nI_lt', nI_le', nI_eq', jaUI_at, jaPt_eq, jaPt_ne, jaUI_o, jaUI_2, jaUL_at, jaUL_o, jaUL_1, jaB_z, jaB_1, ↓jaB_01, Classical.not_not, and_self, true_or, or_true, nI_11, Nat.reduceEqDiff, Nat.reduceAdd, Nat.reduceMul, Nat.add_zero, Nat.zero_add, Nat.mul_zero, not_true_eq_false, not_false_eq_true, false_implies, true_implies, h1, e68, e52]
  refine ⟨fun q => ?_, fun q => ?_, fun q => ?_, fun q => ?_, fun q => ?_, fun q => ?_, fun q => ?_, fun q => ?_, fun q => ?_, fun q => ?_, fun q => ?_, fun q => ?_, fun q => ?_⟩
  · rw [nI_toInt (by omega)] at q
    have w12 : w = 12 := by omega
    rw [r1]
    have e0 : (s, d, e).2.2 = e := rfl
    refine sp_Sn_compares (by omega) hp h2 h3 (c4 (by omega) (by omega)) ⟨of_eq_true jaB_01, G _ ?_⟩
    subst w12
    simp
  · have wv : w = 0 := by omega
    refine GH (s (175 + i) = nI 0) ?_
    subst wv
    simp

  · have wv : w = 1 := by omega
    refine GH (s (175 + i) = nI 1) ?_
    subst wv
    simp

  · have wv : w = 2 := by omega
    refine GH (s (175 + i) = nI 2) ?_
    subst wv
    simp

  · have wv : w = 3 := by omega
    refine GH (s (175 + i) = nI 3) ?_
    subst wv
    simp

  · have wv : w = 4 := by omega
    refine GH (s (175 + i) = nI 4) ?_
    subst wv
    simp
  · have wv : w = 5 := by omega
    refine G _ ?_
    subst wv
    simp
  · have wv : w = 6 := by omega
    have b := eWi.2.2.2.2
    rw [r4]
    show ((e (9 * jvId s i + 4) = 0 ∨ e (9 * jvId s i + 4) = 1) ∧ kk (e (9 * jvId s i + 4)) τ)
    rcases b with b | b
    · rw [b]
      refine ⟨Or.inl rfl, t0 ?_⟩
      subst wv
      unfold jvWd
      rw [b]
      simp
      decide
    · rw [b]
      refine ⟨Or.inr rfl, t1 ?_⟩
      exact Or.inr (Or.inr (Or.inl ⟨wv, b⟩))
  · have wv : w = 7 := by omega
    have n32 := c3 (Or.inl wv)
    rw [r2]
    simp (disch := first | omega | decide) only [jaU_eq, jaU_U, nI_add, pk_mul, jaIx_nI, vp_inT, true_and, and_true, ↓jaO0, ↓jaO1, nI_z, nI_z2, nI_z3, nI_z4, nI_z5, nI_lt', nI_le', nI_eq', jaUI_at, jaPt_eq, jaPt_ne, jaUI_o, jaUI_2, jaUL_at, jaUL_o, jaUL_1, jaB_z, jaB_1, ↓jaB_01, Classical.not_not, and_self, true_or, or_true, nI_11, Nat.reduceEqDiff, Nat.reduceAdd, Nat.reduceMul, Nat.add_zero, Nat.zero_add, Nat.mul_zero, not_true_eq_false, not_false_eq_true, false_implies, true_implies, h3]
    rw [jaBt_u n32]
    refine GH _ ?_
    subst wv
    simp
  · have wv : w = 8 := by omega
    have n32 := c3 (Or.inr wv)
    rw [r3]
    simp (disch := first | omega | decide) only [jaU_eq, jaU_U, nI_add, pk_mul, jaIx_nI, vp_inT, true_and, and_true, ↓jaO0, ↓jaO1, nI_z, nI_z2, nI_z3, nI_z4, nI_z5, nI_lt', nI_le', nI_eq', jaUI_at, jaPt_eq, jaPt_ne, jaUI_o, jaUI_2, jaUL_at, jaUL_o, jaUL_1, jaB_z, jaB_1, ↓jaB_01, Classical.not_not, and_self, true_or, or_true, nI_11, Nat.reduceEqDiff, Nat.reduceAdd, Nat.reduceMul, Nat.add_zero, Nat.zero_add, Nat.mul_zero, not_true_eq_false, not_false_eq_true, false_implies, true_implies, h3]
    rw [jaBt_u n32]
    refine GH _ ?_
    subst wv
    simp
  · have wv : w = 9 := by omega
    have eτ : τ = jaU τ 1 (τ 1) := by rw [jaU_self]
    have is : jaDe D jy_St_siteOf [jcSt 1, .inl (nI (jvId s i))] (jaU τ 1 (τ 1)) (jaKi fun r4 σ3 => vp_in (nI p) 40 ∧ ((¬ r4 = ((σ3 k).1 23 0 (jaIx (nI p))) → ((nI 0) = 0 ∨ (nI 0) = 1) ∧ kk (nI 0) σ3) ∧ (r4 = ((σ3 k).1 23 0 (jaIx (nI p))) → ((nI 1) = 0 ∨ (nI 1) = 1) ∧ kk (nI 1) σ3))) := by
      refine sp_St_siteOf (by omega) hR.e hR.s hW.e hid2 (by omega) hW.o.many.2 ?_
      rw [jaU_self]
      simp (disch := first | omega | decide) only [jaU_eq, jaU_U, nI_add, pk_mul, jaIx_nI, vp_inT, true_and, and_true, ↓jaO0, ↓jaO1, nI_z, nI_z2, nI_z3, nI_z4, nI_z5, nI_lt', nI_le', nI_eq', jaUI_at, jaPt_eq, jaPt_ne, jaUI_o, jaUI_2, jaUL_at, jaUL_o, jaUL_1, jaB_z, jaB_1, ↓jaB_01, Classical.not_not, and_self, true_or, or_true, nI_11, Nat.reduceEqDiff, Nat.reduceAdd, Nat.reduceMul, Nat.add_zero, Nat.zero_add, Nat.mul_zero, not_true_eq_false, not_false_eq_true, false_implies, true_implies, h3]
      refine GH _ ?_
      subst wv
      simp
    rw [jaU_self] at is
    simp (disch := first | omega | decide) only [jaU_eq, jaU_U, nI_add, pk_mul, jaIx_nI, vp_inT, true_and, and_true, ↓jaO0, ↓jaO1, nI_z, nI_z2, nI_z3, nI_z4, nI_z5, nI_lt', nI_le', nI_eq', jaUI_at, jaPt_eq, jaPt_ne, jaUI_o, jaUI_2, jaUL_at, jaUL_o, jaUL_1, jaB_z, jaB_1, ↓jaB_01, Classical.not_not, and_self, true_or, or_true, nI_11, Nat.reduceEqDiff, Nat.reduceAdd, Nat.reduceMul, Nat.add_zero, Nat.zero_add, Nat.mul_zero, not_true_eq_false, not_false_eq_true, false_implies, true_implies, h3] at is
    (try simp (disch := first | omega | decide) only [jaU_eq, jaU_U, nI_add, pk_mul, jaIx_nI, vp_inT, true_and, and_true, ↓jaO0, ↓jaO1, nI_z, nI_z2, nI_z3, nI_z4, nI_z5, nI_lt', nI_le', nI_eq', jaUI_at, jaPt_eq, jaPt_ne, jaUI_o, jaUI_2, jaUL_at, jaUL_o, jaUL_1, jaB_z, jaB_1, ↓jaB_01, Classical.not_not, and_self, true_or, or_true, nI_11, Nat.reduceEqDiff, Nat.reduceAdd, Nat.reduceMul, Nat.add_zero, Nat.zero_add, Nat.mul_zero, not_true_eq_false, not_false_eq_true, false_implies, true_implies, h3])
    exact is
  · have wv : w = 10 := by omega
    refine sp_Sn_compares (by omega) hp h2 h3 (c4 (by omega) (by omega)) ⟨of_eq_true jaB_01, G _ ?_⟩
    subst wv
    simp
  · have wv : w = 11 := by omega
    rw [r1]
    have is : jaDe D jy_En_countOf [jcEn 1, .inl (e (9 * jvId s i))] (jaU τ 1 (τ 1)) (jaKi fun r8 σ7 => jaDe D jy_Sn_compares [jcSn k, .inl r8, .inl (nI p)] σ7 (jaKi fun r10 σ9 => (r10 = 0 ∨ r10 = 1) ∧ kk r10 σ9)) := by
      refine sp_En_countOf (by omega) hR hW ?_
      rw [jaU_self]
      refine sp_Sn_compares (by omega) hp h2 h3 (c4 (by omega) (by omega)) ⟨of_eq_true jaB_01, G _ ?_⟩
      subst wv
      simp
    rw [jaU_self] at is
    exact is
end
