section
/-! the class: an epoch's end -/
theorem sp_St_siteOf {D : Nat} (hD : 1 ≤ D) {kk : Int32 → jaT → Prop} {σ : jaT} {S : jaS} {s d e : jvA} {k id : Nat} (he : jRe S s d e) (hs : jRs S s d) (hwe : jWe s d e) (hid : id < jz s 33) (h64 : id < 64) (h24 : jz s 32 ≤ 24) (h : kk (e (9 * id + 1)) (jaU σ k S)) : jaDe D jy_St_siteOf [jcSt k, .inl (nI id)] (jaU σ k S) (jaKi kk) := by
  obtain ⟨D, rfl, hD⟩ := jaSuc hD
  obtain ⟨i1, -⟩ := he id hid
  obtain ⟨⟨e1, e1'⟩, e2, -⟩ := hwe id hid
  have r0 := (hs.2 _ e1').1
  have i1 : S.1 61 0 id = nI (jz e (9 * id)) := i1.trans e1
  rw [e2] at h
  apply js_St_siteOf
  simp (disch := first | omega | decide) only [jaU_eq, jaU_U, nI_add, pk_mul, jaIx_nI, vp_inT, true_and, and_true, ↓jaO0, ↓jaO1, nI_z, nI_z2, nI_z3, nI_z4, nI_z5, nI_lt', nI_le', nI_eq', jaUI_at, jaPt_eq, jaPt_ne, jaUI_o, jaUI_2, jaUL_at, jaUL_o, jaUL_1, jaB_z, jaB_1, ↓jaB_01, Classical.not_not, and_self, true_or, or_true, nI_11, Nat.reduceEqDiff, Nat.reduceAdd, Nat.reduceMul, Nat.add_zero, Nat.zero_add, Nat.mul_zero, not_true_eq_false, not_false_eq_true, false_implies, true_implies, i1, r0]
  exact h
theorem sp_St_isArrivedAt {D : Nat} (hD : 2 ≤ D) {kk : Int32 → jaT → Prop} {σ : jaT} {S : jaS} {s d e : jvA} {k id x : Nat} (he : jRe S s d e) (hs : jRs S s d) (hwe : jWe s d e) (hid : id < jz s 33) (h64 : id < 64) (h24 : jz s 32 ≤ 24) (h : kk (jaB (S.1 66 0 id = -1 ∧ e (9 * id + 1) = nI x)) (jaU σ k S)) : jaDe D jy_St_isArrivedAt [jcSt k, .inl (nI id), .inl (nI x)] (jaU σ k S) (jaKi kk) := by
  obtain ⟨D, rfl, hD⟩ := jaSuc hD
  apply js_St_isArrivedAt
  simp (disch := first | omega | decide) only [jaU_eq, jaU_U, nI_add, pk_mul, jaIx_nI, vp_inT, true_and, and_true, ↓jaO0, ↓jaO1, nI_z, nI_z2, nI_z3, nI_z4, nI_z5, nI_lt', nI_le', nI_eq', jaUI_at, jaPt_eq, jaPt_ne, jaUI_o, jaUI_2, jaUL_at, jaUL_o, jaUL_1, jaB_z, jaB_1, ↓jaB_01, Classical.not_not, and_self, true_or, or_true, nI_11, Nat.reduceEqDiff, Nat.reduceAdd, Nat.reduceMul, Nat.add_zero, Nat.zero_add, Nat.mul_zero, not_true_eq_false, not_false_eq_true, false_implies, true_implies]
  refine ⟨fun q => (jaBk h).2 (fun z => q z.1), fun q => ?_⟩
  refine sp_St_siteOf (by omega) he hs hwe hid h64 h24 ?_
  (try simp (disch := first | omega | decide) only [jaU_eq, jaU_U, nI_add, pk_mul, jaIx_nI, vp_inT, true_and, and_true, ↓jaO0, ↓jaO1, nI_z, nI_z2, nI_z3, nI_z4, nI_z5, nI_lt', nI_le', nI_eq', jaUI_at, jaPt_eq, jaPt_ne, jaUI_o, jaUI_2, jaUL_at, jaUL_o, jaUL_1, jaB_z, jaB_1, ↓jaB_01, Classical.not_not, and_self, true_or, or_true, nI_11, Nat.reduceEqDiff, Nat.reduceAdd, Nat.reduceMul, Nat.add_zero, Nat.zero_add, Nat.mul_zero, not_true_eq_false, not_false_eq_true, false_implies, true_implies])
  exact ⟨fun q2 => (jaBk h).2 (fun z => q2 z.2), fun q2 => (jaBk h).1 ⟨q, q2⟩⟩
theorem sp_St_orderEntry {D : Nat} (hD : 1 ≤ D) {kk : jaT → Prop} {σ : jaT} {S : jaS} {k id O C : Nat} (hO : S.1 60 0 1 = nI O) (hO' : O < 40) (hid : id < 64) (hC : S.1 30 0 2 = nI C) (hC' : C ≤ 3)
    (h : ∀ S', jcF [52, 60, 66, 68] S S' → S'.1 68 0 = jaPt (S.1 68 0) O (nI id) → S'.1 66 0 = jaPt (S.1 66 0) id (nI O) → S'.1 60 0 = jaPt (S.1 60 0) 1 (nI (O + 1)) → (∀ c i, S'.1 52 c i = jaIf1 (c < C ∧ i = O) (nI 0) (S.1 52 c i)) → kk (jaU σ k S')) : jaDe D jy_St_orderEntry [jcSt k, .inl (nI id)] (jaU σ k S) (jaKv kk) := by
  obtain ⟨D, rfl, hD⟩ := jaSuc hD
  apply js_St_orderEntry
  simp (disch := first | omega | decide) only [jaU_eq, jaU_U, nI_add, pk_mul, jaIx_nI, vp_inT, true_and, and_true, ↓jaO0, ↓jaO1, nI_z, nI_z2, nI_z3, nI_z4, nI_z5, nI_lt', nI_le', nI_eq', jaUI_at, jaPt_eq, jaPt_ne, jaUI_o, jaUI_2, jaUL_at, jaUL_o, jaUL_1, jaB_z, jaB_1, ↓jaB_01, Classical.not_not, and_self, true_or, or_true, nI_11, Nat.reduceEqDiff, Nat.reduceAdd, Nat.reduceMul, Nat.add_zero, Nat.zero_add, Nat.mul_zero, not_true_eq_false, not_false_eq_true, false_implies, true_implies, hO]
  refine jaFor (C := fun c0 => ∀ S', jcF [52, 60, 66, 68] S S' → S'.1 68 0 = jaPt (S.1 68 0) O (nI id) → S'.1 66 0 = jaPt (S.1 66 0) id (nI O) → S'.1 60 = S.1 60 → (∀ c i, S'.1 52 c i = jaIf1 (c < c0 ∧ i = O) (nI 0) (S.1 52 c i)) → jc_St_orderEntry_1 D kk k (nI id) (nI O) (nI c0) (jaU σ k S')) (N := C) ?_ (fun c0 hc0 ih => ?_) (jaUI (jaUI S 68 0 O (nI id)) 66 0 id (nI O)) ((jcF.rfl.ui (by decide)).ui (by decide)) ?_ ?_ ?_ ?_
  · intro S' f a b g1 g2
    have hC2 : S'.1 30 0 2 = nI C := by rw [f.s 30 (by decide)]; exact hC
    apply jb_St_orderEntry_1
    simp (disch := first | omega | decide) only [jaU_eq, jaU_U, nI_add, pk_mul, jaIx_nI, vp_inT, true_and, and_true, ↓jaO0, ↓jaO1, nI_z, nI_z2, nI_z3, nI_z4, nI_z5, nI_lt', nI_le', nI_eq', jaUI_at, jaPt_eq, jaPt_ne, jaUI_o, jaUI_2, jaUL_at, jaUL_o, jaUL_1, jaB_z, jaB_1, ↓jaB_01, Classical.not_not, and_self, true_or, or_true, nI_11, Nat.reduceEqDiff, Nat.reduceAdd, Nat.reduceMul, Nat.add_zero, Nat.zero_add, Nat.mul_zero, not_true_eq_false, not_false_eq_true, false_implies, true_implies, hC2, g1, hO]
    refine ⟨fun _ => ?_, fun q => absurd (by omega) q⟩
    refine h _ (f.ui (by decide)) ?_ ?_ ?_ (fun c i => ?_)
    · rw [jaUI_o (by decide)]; exact a
    · rw [jaUI_o (by decide)]; exact b
    · rw [jaUI_at, g1]
    · rw [jaUI_o (by decide)]; exact g2 c i
  · intro S' f a b g1 g2
    have hC2 : S'.1 30 0 2 = nI C := by rw [f.s 30 (by decide)]; exact hC
    apply jb_St_orderEntry_1
    simp (disch := first | omega | decide) only [jaU_eq, jaU_U, nI_add, pk_mul, jaIx_nI, vp_inT, true_and, and_true, ↓jaO0, ↓jaO1, nI_z, nI_z2, nI_z3, nI_z4, nI_z5, nI_lt', nI_le', nI_eq', jaUI_at, jaPt_eq, jaPt_ne, jaUI_o, jaUI_2, jaUL_at, jaUL_o, jaUL_1, jaB_z, jaB_1, ↓jaB_01, Classical.not_not, and_self, true_or, or_true, nI_11, Nat.reduceEqDiff, Nat.reduceAdd, Nat.reduceMul, Nat.add_zero, Nat.zero_add, Nat.mul_zero, not_true_eq_false, not_false_eq_true, false_implies, true_implies, hC2]
    refine ⟨fun q => absurd q (by omega), fun _ => ?_⟩
    refine ih _ (f.ui (by decide)) ?_ ?_ ?_ (fun c i => ?_)
    · rw [jaUI_o (by decide)]; exact a
    · rw [jaUI_o (by decide)]; exact b
    · rw [jaUI_o (by decide)]; exact g1
    · by_cases q : c = c0
      · rw [q, jaUI_at]
        by_cases q2 : i = O
        · rw [q2, jaPt_eq, jaIf1_t (by omega)]
        · rw [jaPt_ne q2, g2, jaIf1_f (by omega), jaIf1_f (by omega)]
      · rw [jaUI_c q, g2]
        by_cases q2 : c < c0 ∧ i = O
        · rw [jaIf1_t q2, jaIf1_t (by omega)]
        · rw [jaIf1_f q2, jaIf1_f (by omega)]
  · simp (disch := first | omega | decide) only [jaU_eq, jaU_U, nI_add, pk_mul, jaIx_nI, vp_inT, true_and, and_true, ↓jaO0, ↓jaO1, nI_z, nI_z2, nI_z3, nI_z4, nI_z5, nI_lt', nI_le', nI_eq', jaUI_at, jaPt_eq, jaPt_ne, jaUI_o, jaUI_2, jaUL_at, jaUL_o, jaUL_1, jaB_z, jaB_1, ↓jaB_01, Classical.not_not, and_self, true_or, or_true, nI_11, Nat.reduceEqDiff, Nat.reduceAdd, Nat.reduceMul, Nat.add_zero, Nat.zero_add, Nat.mul_zero, not_true_eq_false, not_false_eq_true, false_implies, true_implies]
  · simp (disch := first | omega | decide) only [jaU_eq, jaU_U, nI_add, pk_mul, jaIx_nI, vp_inT, true_and, and_true, ↓jaO0, ↓jaO1, nI_z, nI_z2, nI_z3, nI_z4, nI_z5, nI_lt', nI_le', nI_eq', jaUI_at, jaPt_eq, jaPt_ne, jaUI_o, jaUI_2, jaUL_at, jaUL_o, jaUL_1, jaB_z, jaB_1, ↓jaB_01, Classical.not_not, and_self, true_or, or_true, nI_11, Nat.reduceEqDiff, Nat.reduceAdd, Nat.reduceMul, Nat.add_zero, Nat.zero_add, Nat.mul_zero, not_true_eq_false, not_false_eq_true, false_implies, true_implies]
  · rw [jaUI_o (by decide), jaUI_o (by decide)]
  · intro c i
    rw [jaIf1_f (by omega), jaUI_o (by decide), jaUI_o (by decide)]
/-- those that stay are of those that came -/
theorem jAg_ret {s e : jvA} {x : Nat} (ho : jWo s) : ∀ k, k ≤ jz s 35 → ∀ j, j < (jvAs s e x k).2 → ∃ i, i < k ∧ jz (jvAs s e x k).1 (81 + j) = jz s (81 + i)
  | 0, _, j, hj => absurd hj (Nat.not_lt_zero _)
  | k + 1, hk, j, hj => by
    have ha := jAg_all (e := e) (x := x) ho k (by omega)
    have ih := jAg_ret (e := e) (x := x) ho k (by omega)
    have hC := ho.came.2
    have hst : jvAs s e x (k + 1) = jvAs1 e x k (jvAs s e x k) := rfl
    rw [hst] at hj ⊢
    generalize jvAs s e x k = y at *
    obtain ⟨y1, y2⟩ := y
    have h8 : y1 (81 + k) = s (81 + k) := ha.2.2.2.2.2.2.2.1 k (Nat.le_refl _) (by omega)
    have h4 : y2 ≤ k := ha.2.2.2.1.1
    have h34 : jz y1 34 ≤ 40 := ha.2.1.2
    unfold jvAs1 at hj ⊢
    simp only [] at hj ⊢ ih
    by_cases q : e (9 * jaIx (y1 (81 + k)) + 1) = nI x ∧ ¬ nI 40 ≤ y1 34
    · have h40 : jz y1 34 < 40 := by
        have q2 := q.2
        rw [show y1 34 = nI (jz y1 34) from ha.2.1.1, nI_le' (by omega) (by omega)] at q2
        omega
      rw [jaIf1_t q] at hj ⊢
      obtain ⟨i, h1, h2⟩ := ih j hj
      refine ⟨i, by omega, ?_⟩
      rw [← h2]
      exact jz_c (by show jaPt (jaPt y1 (41 + jz y1 34) (y1 (81 + k))) 34 (y1 34 + nI 1) (81 + j) = y1 (81 + j); rw [jaPt_ne (by omega), jaPt_ne (by omega)])
    · rw [jaIf1_f q] at hj ⊢
      by_cases q2 : j = y2
      · refine ⟨k, by omega, ?_⟩
        rw [q2]
        show jaIx (jaPt y1 (81 + y2) (y1 (81 + k)) (81 + y2)) = _
        rw [jaPt_eq, h8]
        rfl
      · obtain ⟨i, h1, h2⟩ := ih j (by simp only [] at hj; omega)
        refine ⟨i, by omega, ?_⟩
        rw [← h2]
        exact jz_c (by show jaPt y1 (81 + y2) (y1 (81 + k)) (81 + j) = y1 (81 + j); rw [jaPt_ne (by omega)])
def jMd (S : jaS) (s : jvA) (k : Nat) (y : jvA × Nat) : Prop :=
  (S.1 60 0 0 = s 33 ∧ S.1 60 0 1 = y.1 34) ∧ (∀ i, i < jz y.1 34 → S.1 68 0 i = y.1 (41 + i) ∧ S.1 65 0 (jz y.1 (41 + i)) = s (415 + i) ∧ ¬ S.1 66 0 (jz y.1 (41 + i)) = -1) ∧
  (∀ i, i < y.2 → S.1 65 0 (jz y.1 (81 + i)) = nI 0 ∧ S.1 66 0 (jz y.1 (81 + i)) = -1) ∧
  (∀ i, k ≤ i → i < jz s 35 → S.1 65 0 (jz s (81 + i)) = nI 0 ∧ S.1 66 0 (jz s (81 + i)) = -1) ∧
  (∀ id, id < jz s 33 → S.1 66 0 id = -1 → (∃ j, j < y.2 ∧ jz y.1 (81 + j) = id) ∨ ∃ j, k ≤ j ∧ j < jz s 35 ∧ jz s (81 + j) = id) ∧
  ∀ c, c < jz s 2 → (∀ q, q < jz s 1 → S.1 51 c q = s (145 + 10 * c + q)) ∧ ∀ i, i < jz y.1 34 → S.1 52 c i = s (175 + 40 * c + i) ∧ (s (175 + 40 * c + i) = nI 1 → S.1 53 c i = s (295 + 40 * c + i))
theorem jMd_0 {S : jaS} {s d e : jvA} (hR : jR S (s, d, e)) : jMd S s 0 (s, 0) := by
  obtain ⟨a, b, c, f⟩ := hR.o
  exact ⟨⟨a, b⟩, c, fun i hi => absurd hi (Nat.not_lt_zero _), fun i _ hi => f i hi, fun id h1 h2 => Or.inr (by obtain ⟨j, h3, h4⟩ := hR.p id h1 h2; exact ⟨j, Nat.zero_le _, h3, h4⟩), hR.c⟩
/-- one that stays -/
theorem jMd_k {S : jaS} {s e : jvA} {k : Nat} {y : jvA × Nat} (ho : jWo s) (ha : jAg s e k y) (hk : k < jz s 35) (h : jMd S s k y) : jMd S s (k + 1) (jaPt y.1 (81 + y.2) (y.1 (81 + k)), y.2 + 1) := by
  obtain ⟨y1, y2⟩ := y
  obtain ⟨⟨m1, m2⟩, m3, m4, m5, m6, m7⟩ := h
  obtain ⟨a1, ⟨a2, a2'⟩, a3, ⟨a4, a4'⟩, a5, a6, a7, a8, a9, a10, a11, a12, a13⟩ := ha
  have hC := ho.came.2
  simp only [] at *
  have hid : y1 (81 + k) = s (81 + k) := a8 k (Nat.le_refl _) hk
  rw [hid]
  have ne : ∀ j, j ≠ 81 + y2 → jaPt y1 (81 + y2) (s (81 + k)) j = y1 j := fun j h1 => jaPt_ne h1
  have zO : jz (jaPt y1 (81 + y2) (s (81 + k))) (81 + y2) = jz s (81 + k) := congrArg jaIx jaPt_eq
  generalize jaPt y1 (81 + y2) (s (81 + k)) = Y at *
  have z34 := jz_c (ne 34 (by omega))
  refine ⟨⟨m1, by show _ = Y 34; rw [ne 34 (by omega)]; exact m2⟩, fun i hi => ?_, fun i hi => ?_, fun i h1 h2 => m5 i (by omega) h2, fun id h1 h2 => ?_, fun c hc => ⟨(m7 c hc).1, fun i hi => ?_⟩⟩
  · have hi : i < jz Y 34 := hi
    rw [z34] at hi
    show _ = Y (41 + i) ∧ S.1 65 0 (jz Y (41 + i)) = _ ∧ ¬ S.1 66 0 (jz Y (41 + i)) = -1
    rw [ne (41 + i) (by omega), jz_c (ne (41 + i) (by omega))]
    exact m3 i hi
  · have hi : i < y2 + 1 := hi
    show S.1 65 0 (jz Y (81 + i)) = nI 0 ∧ S.1 66 0 (jz Y (81 + i)) = -1
    by_cases q : i = y2
    · rw [q, zO]
      exact m5 k (Nat.le_refl _) hk
    · rw [jz_c (ne (81 + i) (by omega))]
      exact m4 i (by omega)
  · show (∃ j, j < y2 + 1 ∧ jz Y (81 + j) = id) ∨ _
    rcases m6 id h1 h2 with ⟨j, h3, h4⟩ | ⟨j, h3, h4, h5⟩
    · exact Or.inl ⟨j, by omega, by rw [jz_c (ne (81 + j) (by omega))]; exact h4⟩
    · by_cases q : j = k
      · exact Or.inl ⟨y2, by omega, by rw [zO, ← q]; exact h5⟩
      · exact Or.inr ⟨j, by omega, h4, h5⟩
  · have hi : i < jz Y 34 := hi
    rw [z34] at hi
    exact (m7 c hc).2 i hi
set_option maxHeartbeats 1000000 in
theorem jMd_t {S S' : jaS} {s e : jvA} {k : Nat} {y : jvA × Nat} (ho : jWo s) (hc : jWc s) (h3 : jz s 2 ≤ 3) (ha : jAg s e k y) (hk : k < jz s 35) (h40 : jz y.1 34 < 40) (h : jMd S s k y) (f : jcF [52, 60, 66, 68] S S') (f1 : S'.1 68 0 = jaPt (S.1 68 0) (jz y.1 34) (nI (jz s (81 + k)))) (f2 : S'.1 66 0 = jaPt (S.1 66 0) (jz s (81 + k)) (nI (jz y.1 34))) (f3 : S'.1 60 0 = jaPt (S.1 60 0) 1 (nI (jz y.1 34 + 1))) (f4 : ∀ c i, S'.1 52 c i = jaIf1 (c < jz s 2 ∧ i = jz y.1 34) (nI 0) (S.1 52 c i)) :
    jMd S' s (k + 1) (jaPt (jaPt y.1 (41 + jz y.1 34) (y.1 (81 + k))) 34 (y.1 34 + nI 1), y.2) := by
  obtain ⟨y1, y2⟩ := y
  obtain ⟨⟨m1, m2⟩, m3, m4, m5, m6, m7⟩ := h
  obtain ⟨a1, ⟨a2, a2'⟩, a3, ⟨a4, a4'⟩, a5, a6, a7, a8, a9, a10, a11, a12, a13⟩ := ha
  have hC := ho.came.2
  have hinc := ho.2.2.2.2.2.2.2.2.1
  have hran := ho.2.2.2.2.2.2.2.2.2.2.2
  obtain ⟨c1, c2⟩ := ho.come hk
  simp only [] at a2 a2' a3 a4 a4' a5 a6 a7 a8 a9 a10 a11 a12 a13 m1 m2 m3 m4 m5 m6 m7 f1 f2 f3 f4 h40
  have hid : y1 (81 + k) = s (81 + k) := a8 k (Nat.le_refl _) hk
  have e34 : jaPt (jaPt y1 (41 + jz y1 34) (s (81 + k))) 34 (y1 34 + nI 1) 34 = nI (jz y1 34 + 1) := by rw [jaPt_eq, a2, nI_add]
  have eO : jaPt (jaPt y1 (41 + jz y1 34) (s (81 + k))) 34 (y1 34 + nI 1) (41 + jz y1 34) = s (81 + k) := by rw [jaPt_ne (by omega), jaPt_eq]
  have ne : ∀ j, j ≠ 34 → j ≠ 41 + jz y1 34 → jaPt (jaPt y1 (41 + jz y1 34) (s (81 + k))) 34 (y1 34 + nI 1) j = y1 j := fun j h1 h2 => by rw [jaPt_ne h1, jaPt_ne h2]
  show jMd S' s (k + 1) (jaPt (jaPt y1 (41 + jz y1 34) (y1 (81 + k))) 34 (y1 34 + nI 1), y2)
  rw [hid]
  have z34 : jz (jaPt (jaPt y1 (41 + jz y1 34) (s (81 + k))) 34 (y1 34 + nI 1)) 34 = jz y1 34 + 1 := (congrArg jaIx e34).trans (jaIx_nI (by omega))
  have zO : jz (jaPt (jaPt y1 (41 + jz y1 34) (s (81 + k))) 34 (y1 34 + nI 1)) (41 + jz y1 34) = jz s (81 + k) := congrArg jaIx eO
  generalize jaPt (jaPt y1 (41 + jz y1 34) (s (81 + k))) 34 (y1 34 + nI 1) = Y at *
  have s65 := f.s 65 (by decide)
  unfold jMd
  simp only []
  rw [f1, f2, f3, s65, z34, f.s 51 (by decide), f.s 53 (by decide), jaPt_ne (show 0 ≠ 1 by decide), jaPt_eq, e34]
  refine ⟨⟨m1, rfl⟩, fun i hi => ?_, fun i hi => ?_, fun i h1 h2 => ?_, fun id h1 h2 => ?_, fun c hc' => ⟨(m7 c hc').1, fun i hi => ?_⟩⟩
  · by_cases q : i = jz y1 34
    · rw [q, eO, zO, jaPt_eq, jaPt_eq, (m5 k (Nat.le_refl _) hk).1]
      refine ⟨c1.symm, ((hran _ h40).2 a3).symm, ?_⟩
      rw [nI_m1 (by omega)]
      exact fun z => z
    · have hne : jz y1 (41 + i) ≠ jz s (81 + k) := a13 i k (by omega) (Nat.le_refl _) hk
      rw [jaPt_ne q, ne (41 + i) (by omega) (by omega), jz_c (ne (41 + i) (by omega) (by omega)), jaPt_ne hne]
      exact m3 i (by omega)
  · have := a10 i k hi (Nat.le_refl _) hk
    rw [jz_c (ne (81 + i) (by omega) (by omega)), jaPt_ne (by omega)]
    exact m4 i hi
  · have := hinc k i (by omega) h2
    rw [jaPt_ne (by omega)]
    exact m5 i (by omega) h2
  · by_cases q : id = jz s (81 + k)
    · rw [q, jaPt_eq, nI_m1 (by omega)] at h2
      exact h2.elim
    · rw [jaPt_ne q] at h2
      rcases m6 id h1 h2 with ⟨j, h3, h4⟩ | ⟨j, h3, h4, h5⟩
      · exact Or.inl ⟨j, h3, by rw [jz_c (ne (81 + j) (by omega) (by omega))]; exact h4⟩
      · exact Or.inr ⟨j, by have : j ≠ k := (fun z => q (by rw [← z]; exact h5.symm)); omega, h4, h5⟩
  · rw [f4]
    by_cases q : i = jz y1 34
    · have hz := (hc c i (by omega) (by omega)).2.1 (by omega)
      rw [jaIf1_t ⟨hc', q⟩, hz]
      exact ⟨rfl, fun z => absurd z (by decide)⟩
    · rw [jaIf1_f (fun z => q z.2)]
      exact (m7 c hc').2 i (by omega)
set_option maxHeartbeats 2000000 in
theorem sp_St_endEpoch {D : Nat} (hD : 3 ≤ D) {kk : jaT → Prop} {σ : jaT} {S : jaS} {s d e : jvA} {k : Nat} (hR : jR S (s, d, e)) (hW : jW s d e) (h : ∀ S', jR S' (jvAg2 s e (jz s 0), d, e) → jcE S S' → kk (jaU σ k S')) : jaDe D jy_St_endEpoch [jcSt k] (jaU σ k S) (jaKv kk) := by
  obtain ⟨D, rfl, hD⟩ := jaSuc hD
  obtain ⟨hS0, hS3⟩ := hW.w.1
  apply js_St_endEpoch
  refine jaFor (C := fun x => ∀ S' u2, jR S' (jvAg2 s e x, d, e) → jcE S S' → jc_St_endEpoch_1 D kk k (nI x) u2 (jaU σ k S')) (N := jz s 0) ?_ (fun x hx ih => ?_) S none hR rfl
  · intro S' u2 a f
    have w0 : S'.1 30 0 0 = nI (jz s 0) := (a.w.1.1).trans (((jvAg2_W hW _).2.1 0 (by omega)).trans hS0)
    apply jb_St_endEpoch_1
    simp (disch := first | omega | decide) only [jaU_eq, jaU_U, nI_add, pk_mul, jaIx_nI, vp_inT, true_and, and_true, ↓jaO0, ↓jaO1, nI_z, nI_z2, nI_z3, nI_z4, nI_z5, nI_lt', nI_le', nI_eq', jaUI_at, jaPt_eq, jaPt_ne, jaUI_o, jaUI_2, jaUL_at, jaUL_o, jaUL_1, jaB_z, jaB_1, ↓jaB_01, Classical.not_not, and_self, true_or, or_true, nI_11, Nat.reduceEqDiff, Nat.reduceAdd, Nat.reduceMul, Nat.add_zero, Nat.zero_add, Nat.mul_zero, not_true_eq_false, not_false_eq_true, false_implies, true_implies, w0]
    refine ⟨fun _ => ?_, fun q => absurd (by omega) q⟩
    exact h S' a f
  · intro S' u2 a f
    obtain ⟨w1, w2, -, -⟩ := jvAg2_W hW x
    have w0 : S'.1 30 0 0 = nI (jz s 0) := (a.w.1.1).trans ((w2 0 (by omega)).trans hS0)
    have hst : jvAg2 s e (x + 1) = jvSite e x (jvAg2 s e x) := rfl
    rw [hst] at ih
    generalize jvAg2 s e x = s1 at *
    have hP := w1.o.pool
    have hM := w1.o.many.2
    have hC := w1.o.came.2
    have hcp := w1.w.2.2.1
    have hinc := w1.o.2.2.2.2.2.2.2.2.1
    have hran := w1.o.2.2.2.2.2.2.2.2.2.2.2
    apply jb_St_endEpoch_1
    simp (disch := first | omega | decide) only [jaU_eq, jaU_U, nI_add, pk_mul, jaIx_nI, vp_inT, true_and, and_true, ↓jaO0, ↓jaO1, nI_z, nI_z2, nI_z3, nI_z4, nI_z5, nI_lt', nI_le', nI_eq', jaUI_at, jaPt_eq, jaPt_ne, jaUI_o, jaUI_2, jaUL_at, jaUL_o, jaUL_1, jaB_z, jaB_1, ↓jaB_01, Classical.not_not, and_self, true_or, or_true, nI_11, Nat.reduceEqDiff, Nat.reduceAdd, Nat.reduceMul, Nat.add_zero, Nat.zero_add, Nat.mul_zero, not_true_eq_false, not_false_eq_true, false_implies, true_implies, w0]
    refine ⟨fun q => absurd q (by omega), fun _ => ?_⟩
    refine jaFor (C := fun id => ∀ kq S2, kq ≤ jz s1 35 → (∀ j, j < kq → jz s1 (81 + j) < id) → (∀ j, kq ≤ j → j < jz s1 35 → id ≤ jz s1 (81 + j)) → jMd S2 s1 kq (jvAs s1 e x kq) → jcF [52, 60, 66, 68] S' S2 → jc_St_endEpoch_2 D kk k (nI x) (nI id) (jaU σ k S2)) (N := jz s1 33) ?_ (fun id hid ih2 => ?_) 0 S' (Nat.zero_le _) (fun j hj => absurd hj (Nat.not_lt_zero _)) (fun j _ _ => Nat.zero_le _) (jMd_0 a) jcF.rfl
    · intro kq S2 hkq hlt hge hm f2
      have hkC : kq = jz s1 35 := by
        rcases Nat.lt_or_ge kq (jz s1 35) with q | q
        · have h1 := hge kq (Nat.le_refl _) q
          have h2 := (w1.o.come q).2
          omega
        · omega
      have o60 : S2.1 60 0 0 = nI (jz s1 33) := hm.1.1.trans hP.1
      apply jb_St_endEpoch_2
      simp (disch := first | omega | decide) only [jaU_eq, jaU_U, nI_add, pk_mul, jaIx_nI, vp_inT, true_and, and_true, ↓jaO0, ↓jaO1, nI_z, nI_z2, nI_z3, nI_z4, nI_z5, nI_lt', nI_le', nI_eq', jaUI_at, jaPt_eq, jaPt_ne, jaUI_o, jaUI_2, jaUL_at, jaUL_o, jaUL_1, jaB_z, jaB_1, ↓jaB_01, Classical.not_not, and_self, true_or, or_true, nI_11, Nat.reduceEqDiff, Nat.reduceAdd, Nat.reduceMul, Nat.add_zero, Nat.zero_add, Nat.mul_zero, not_true_eq_false, not_false_eq_true, false_implies, true_implies, o60]
      refine ⟨fun _ => ?_, fun q => absurd (by omega) q⟩
      refine ih _ _ ?_ ((f2.e (by decide)).trans f)
      rw [hkC] at hm
      -- the site is through
      obtain ⟨v1, v2, v3⟩ := jvSite_W (x := x) w1
      have ne : ∀ j, ¬ (34 ≤ j ∧ j ≤ 35) ∧ ¬ (41 ≤ j ∧ j < 145) → jvSite e x s1 j = s1 j := fun j hj => jvSite_ne w1.o hj
      have ha := jAg_all (e := e) (x := x) w1.o _ (Nat.le_refl _)
      have hdef : jvSite e x s1 = jaPt (jvAz (jvAs s1 e x (jz s1 35)).1 (jvAs s1 e x (jz s1 35)).2 (jz s1 35 - (jvAs s1 e x (jz s1 35)).2)) 35 (nI (jvAs s1 e x (jz s1 35)).2) := rfl
      generalize jvAs s1 e x (jz s1 35) = y at *
      obtain ⟨y1, y2⟩ := y
      obtain ⟨-, ⟨a2, a2'⟩, -, ⟨a4, -⟩, -⟩ := ha
      obtain ⟨⟨m1, m2⟩, m3, m4, m5, m6, m7⟩ := hm
      simp only [] at a2 a2' a4 m1 m2 m3 m4 m5 m6 m7 hdef
      have eY : ∀ j, j ≠ 35 → (j < 81 + y2 ∨ 81 + jz s1 35 ≤ j) → jvSite e x s1 j = y1 j := fun j h1 h2 => by rw [hdef, jaPt_ne h1, jvAz_at, jaIf1_f (by omega)]
      have zY : ∀ j, j ≠ 35 → (j < 81 + y2 ∨ 81 + jz s1 35 ≤ j) → jz (jvSite e x s1) j = jz y1 j := fun j h1 h2 => jz_c (eY j h1 h2)
      have e35 : jvSite e x s1 35 = nI y2 := by rw [hdef, jaPt_eq]
      have z35 : jz (jvSite e x s1) 35 = y2 := (congrArg jaIx e35).trans (jaIx_nI (by omega))
      have e34 := eY 34 (by omega) (by omega)
      have z34 := zY 34 (by omega) (by omega)
      generalize jvSite e x s1 = X at *
      have so : ∀ o, o ≠ 52 → o ≠ 60 → o ≠ 66 → o ≠ 68 → S2.1 o = S'.1 o := fun o b1 b2 b3 b4 => f2.s o (by simp [b1, b2, b3, b4])
      refine ⟨jRw_c (fun j hj => ne j (by omega)) w1.w (jRw_S (fun o h1 h2 => so o (by omega) (by omega) (by omega) (by omega)) a.w), jRs_c (ne 32 (by omega)) (jRs_S (fun o h1 h2 => so o (by omega) (by omega) (by omega) (by omega)) a.s), jRe_c (ne 33 (by omega)) (jRe_S (fun o h1 h2 => so o (by omega) (by omega) (by omega) (by omega)) a.e), ⟨?_, ?_, fun i hi => ?_, fun i hi => ?_⟩, fun c hc => ⟨fun q hq => ?_, fun i hi => ?_⟩, ?_, ?_, fun id hid h66 => ?_⟩
      · show _ = X 33
        rw [ne 33 (by omega)]; exact m1
      · show _ = X 34
        rw [e34]; exact m2
      · have hi : i < jz X 34 := hi
        rw [z34] at hi
        show _ = X (41 + i) ∧ S2.1 65 0 (jz X (41 + i)) = X (415 + i) ∧ ¬ S2.1 66 0 (jz X (41 + i)) = -1
        rw [eY (41 + i) (by omega) (by omega), zY (41 + i) (by omega) (by omega), ne (415 + i) (by omega)]
        exact m3 i hi
      · have hi : i < jz X 35 := hi
        rw [z35] at hi
        show S2.1 65 0 (jz X (81 + i)) = nI 0 ∧ S2.1 66 0 (jz X (81 + i)) = -1
        rw [zY (81 + i) (by omega) (by omega)]
        exact m4 i hi
      · have hc : c < jz X 2 := hc
        rw [jz_c (ne 2 (by omega))] at hc
        have hq : q < jz X 1 := hq
        rw [jz_c (ne 1 (by omega))] at hq
        show _ = X (145 + 10 * c + q)
        rw [ne _ (by omega)]
        exact (m7 c hc).1 q hq
      · have hc : c < jz X 2 := hc
        rw [jz_c (ne 2 (by omega))] at hc
        have hi : i < jz X 34 := hi
        rw [z34] at hi
        show _ = X (175 + 40 * c + i) ∧ (X (175 + 40 * c + i) = nI 1 → _ = X (295 + 40 * c + i))
        rw [ne _ (by omega), ne _ (by omega)]
        exact (m7 c hc).2 i hi
      · have h38 := w1.k38
        have h40 := w1.k.2.1.2
        exact jRk_c (fun j hj => ne j (by omega)) w1.w.2.1.2 (by omega) (by have := w1.O; omega) (jRk_S (fun o h1 h2 => so o (by omega) (by omega) (by omega) (by omega)) a.k)
      · show S2.1 40 0 5 = X 31
        rw [so 40 (by decide) (by decide) (by decide) (by decide), ne 31 (by omega)]
        exact a.t
      · have hid : id < jz X 33 := hid
        rw [jz_c (ne 33 (by omega))] at hid
        rcases m6 id hid h66 with ⟨j, h3, h4⟩ | ⟨j, h3, h4, h5⟩
        · exact ⟨j, by rw [z35]; exact h3, by show jz X (81 + j) = id; rw [zY (81 + j) (by omega) (by omega)]; exact h4⟩
        · omega
    · intro kq S2 hkq hlt hge hm f2
      have o60 : S2.1 60 0 0 = nI (jz s1 33) := hm.1.1.trans hP.1
      have ha := jAg_all (e := e) (x := x) w1.o kq hkq
      have so : ∀ o, o ≠ 52 → o ≠ 60 → o ≠ 66 → o ≠ 68 → S2.1 o = S'.1 o := fun o b1 b2 b3 b4 => f2.s o (by simp [b1, b2, b3, b4])
      have he2 := jRe_S (S' := S2) (fun o h1 h2 => so o (by omega) (by omega) (by omega) (by omega)) a.e
      have hs2 := jRs_S (S' := S2) (fun o h1 h2 => so o (by omega) (by omega) (by omega) (by omega)) a.s
      have o61 : S2.1 60 0 1 = nI (jz (jvAs s1 e x kq).1 34) := hm.1.2.trans ha.2.1.1
      apply jb_St_endEpoch_2
      simp (disch := first | omega | decide) only [jaU_eq, jaU_U, nI_add, pk_mul, jaIx_nI, vp_inT, true_and, and_true, ↓jaO0, ↓jaO1, nI_z, nI_z2, nI_z3, nI_z4, nI_z5, nI_lt', nI_le', nI_eq', jaUI_at, jaPt_eq, jaPt_ne, jaUI_o, jaUI_2, jaUL_at, jaUL_o, jaUL_1, jaB_z, jaB_1, ↓jaB_01, Classical.not_not, and_self, true_or, or_true, nI_11, Nat.reduceEqDiff, Nat.reduceAdd, Nat.reduceMul, Nat.add_zero, Nat.zero_add, Nat.mul_zero, not_true_eq_false, not_false_eq_true, false_implies, true_implies, o60]
      refine ⟨fun q => absurd q (by omega), fun _ => ?_⟩
      refine sp_St_isArrivedAt (by omega) he2 hs2 w1.e hid (by omega) hM ?_
      simp (disch := first | omega | decide) only [jaU_eq, jaU_U, nI_add, pk_mul, jaIx_nI, vp_inT, true_and, and_true, ↓jaO0, ↓jaO1, nI_z, nI_z2, nI_z3, nI_z4, nI_z5, nI_lt', nI_le', nI_eq', jaUI_at, jaPt_eq, jaPt_ne, jaUI_o, jaUI_2, jaUL_at, jaUL_o, jaUL_1, jaB_z, jaB_1, ↓jaB_01, Classical.not_not, and_self, true_or, or_true, nI_11, Nat.reduceEqDiff, Nat.reduceAdd, Nat.reduceMul, Nat.add_zero, Nat.zero_add, Nat.mul_zero, not_true_eq_false, not_false_eq_true, false_implies, true_implies, o61]
      by_cases hq : kq < jz s1 35 ∧ jz s1 (81 + kq) = id
      · obtain ⟨hq1, hq2⟩ := hq
        have hst2 : jvAs s1 e x (kq + 1) = jvAs1 e x kq (jvAs s1 e x kq) := rfl
        have hnext : ∀ S3, jMd S3 s1 (kq + 1) (jvAs s1 e x (kq + 1)) → jcF [52, 60, 66, 68] S' S3 → jc_St_endEpoch_2 D kk k (nI x) (nI (id + 1)) (jaU σ k S3) := fun S3 b1 b2 =>
          ih2 (kq + 1) S3 (by omega) (fun j hj => by
            by_cases q : j = kq
            · rw [q]; omega
            · have := hlt j (by omega); omega) (fun j h1 h2 => by have := hinc kq j (by omega) h2; omega) b1 b2
        rw [hst2] at hnext
        have hm' := hm
        generalize jvAs s1 e x kq = y at *
        obtain ⟨y1, y2⟩ := y
        have h8 : y1 (81 + kq) = s1 (81 + kq) := ha.2.2.2.2.2.2.2.1 kq (Nat.le_refl _) hq1
        have h66 := (hm.2.2.2.1 kq (Nat.le_refl _) hq1).2
        rw [hq2] at h66
        have hcond : e (9 * jaIx (y1 (81 + kq)) + 1) = e (9 * id + 1) := by
          rw [h8, show jaIx (s1 (81 + kq)) = id from hq2]
        unfold jvAs1 at hnext
        simp only [] at hnext o61
        rw [hcond] at hnext
        have h34 : y1 34 = nI (jz y1 34) := ha.2.1.1
        have h34' : jz y1 34 ≤ 40 := ha.2.1.2
        refine ⟨fun q => ?_, fun q => ⟨fun q3 => ?_, fun q3 => ?_⟩⟩
        · rw [jaIf1_f (fun z => q ⟨h66, z.1⟩)] at hnext
          exact hnext S2 (jMd_k w1.o ha hq1 hm) f2
        · rw [jaIf1_f (fun z => z.2 (by rw [h34]; exact q3))] at hnext
          exact hnext S2 (jMd_k w1.o ha hq1 hm) f2
        · have h40 : jz y1 34 < 40 := by
            have q4 : ¬ nI 40 ≤ nI (jz y1 34) := q3
            rw [nI_le' (by omega) (by omega)] at q4
            omega
          rw [jaIf1_t ⟨q.2, by rw [h34]; exact q3⟩] at hnext
          have w30 : S2.1 30 0 2 = nI (jz s1 2) := by
            rw [so 30 (by decide) (by decide) (by decide) (by decide)]
            exact (a.w.1.2.2.1).trans hcp.1
          refine sp_St_orderEntry (by omega) o61 h40 (by omega) w30 hcp.2.2 (fun S3 g g1 g2 g3 g4 => ?_)
          rw [← hq2] at g1 g2
          exact hnext S3 (jMd_t w1.o w1.c hcp.2.2 ha hq1 h40 hm g g1 g2 g3 g4) (f2.trans g)
      · have hstep : jc_St_endEpoch_2 D kk k (nI x) (nI (id + 1)) (jaU σ k S2) := ih2 kq S2 hkq (fun j hj => by have := hlt j hj; omega) (fun j h1 h2 => by
          have h3 := hge j h1 h2
          by_cases q : jz s1 (81 + j) = id
          · by_cases q2 : j = kq
            · exact absurd ⟨by omega, by rw [← q2]; exact q⟩ hq
            · have h4 := hinc kq j (by omega) h2
              have h5 := hge kq (Nat.le_refl _) (by omega)
              omega
          · omega) hm f2
        refine ⟨fun _ => hstep, fun q => ?_⟩
        rcases hm.2.2.2.2.1 id hid q.1 with ⟨j, h3, h4⟩ | ⟨j, h3, h4, h5⟩
        · obtain ⟨i, h6, h7⟩ := jAg_ret (e := e) (x := x) w1.o kq hkq j h3
          have := hlt i h6
          omega
        · have h6 := hge kq (Nat.le_refl _) (by omega)
          by_cases q2 : j = kq
          · exact absurd ⟨by omega, by rw [← q2]; exact h5⟩ hq
          · have h7 := hinc kq j (by omega) h4
            omega
end
