section
/-! the class: a Search -/
theorem jfEv : ∀ n : Fin 13, ((nI n.1 - nI n.1 / nI 2 * nI 2 = 0) ↔ n.1 % 2 = 0) ∧ ((nI n.1 - nI n.1 / nI 2 * nI 2 = nI 1) ↔ n.1 % 2 = 1) := by decide +kernel
theorem sp_Se_isTold {D : Nat} (hD : 1 ≤ D) {kk : Int32 → jaT → Prop} {τ : jaT} {c : Nat → Nat} {k n K : Nat} (hn : n ≤ 940) (hc : ∀ j, j < n → (τ 0).1 1 0 j = nI (c j) ∧ c j < 256) (hK : (τ k).1 30 0 1 = nI K) (hK10 : K ≤ 10) (h : kk (jaB (jfTo c n K)) τ) : jaDe D jy_Se_isTold [jcWo k, .inr (.inr (1, 0, 0)), .inl (nI n)] τ (jaKi kk) := by
  obtain ⟨D, rfl, hD⟩ := jaSuc hD
  obtain ⟨t1, t0⟩ := jaB_h h
  unfold jfTo at t1 t0
  apply js_Se_isTold
  simp (disch := first | omega | decide) only [jaU_eq, jaU_U, nI_add, pk_mul, jaIx_nI, vp_inT, true_and, and_true, ↓jaO0, ↓jaO1, nI_z, nI_z2, nI_z3, nI_z4, nI_z5, nI_lt', nI_le', nI_eq', jaUI_at, jaPt_eq, jaPt_ne, jaUI_o, jaUI_2, jaUL_at, jaUL_o, jaUL_1, jaB_z, jaB_1, ↓jaB_01, Classical.not_not, and_self, true_or, or_true, nI_11, Nat.reduceEqDiff, Nat.reduceAdd, Nat.reduceMul, Nat.add_zero, Nat.zero_add, Nat.mul_zero, not_true_eq_false, not_false_eq_true, false_implies, true_implies]
  refine ⟨fun q => t0 (fun z => by omega), fun q => ⟨fun q2 => t0 (fun z => by omega), fun q2 => ?_⟩⟩
  obtain ⟨e1, e2⟩ := jfEv ⟨n, by omega⟩
  simp only [] at e1 e2
  rw [e1]
  refine ⟨fun q3 => ?_, fun q3 => t0 (fun z => q3 z.2.2.1)⟩
  have L : ∀ m p, p + m = n / 2 → (∀ q, q < p → c (2 * q) < K) → jc_Se_isTold_3 D kk k (nI n) (nI (2 * p)) τ := by
    intro m
    induction m with
    | zero =>
      intro p hp hq
      apply jb_Se_isTold_3
      simp (disch := first | omega | decide) only [jaU_eq, jaU_U, nI_add, pk_mul, jaIx_nI, vp_inT, true_and, and_true, ↓jaO0, ↓jaO1, nI_z, nI_z2, nI_z3, nI_z4, nI_z5, nI_lt', nI_le', nI_eq', jaUI_at, jaPt_eq, jaPt_ne, jaUI_o, jaUI_2, jaUL_at, jaUL_o, jaUL_1, jaB_z, jaB_1, ↓jaB_01, Classical.not_not, and_self, true_or, or_true, nI_11, Nat.reduceEqDiff, Nat.reduceAdd, Nat.reduceMul, Nat.add_zero, Nat.zero_add, Nat.mul_zero, not_true_eq_false, not_false_eq_true, false_implies, true_implies]
      refine ⟨fun _ => t1 ⟨by omega, by omega, q3, fun q hq2 => hq q (by omega)⟩, fun z => absurd (show n ≤ 2 * p by omega) z⟩
    | succ m ih =>
      intro p hp hq
      obtain ⟨c1, c2⟩ := hc (2 * p) (by omega)
      apply jb_Se_isTold_3
      simp (disch := first | omega | decide) only [jaU_eq, jaU_U, nI_add, pk_mul, jaIx_nI, vp_inT, true_and, and_true, ↓jaO0, ↓jaO1, nI_z, nI_z2, nI_z3, nI_z4, nI_z5, nI_lt', nI_le', nI_eq', jaUI_at, jaPt_eq, jaPt_ne, jaUI_o, jaUI_2, jaUL_at, jaUL_o, jaUL_1, jaB_z, jaB_1, ↓jaB_01, Classical.not_not, and_self, true_or, or_true, nI_11, Nat.reduceEqDiff, Nat.reduceAdd, Nat.reduceMul, Nat.add_zero, Nat.zero_add, Nat.mul_zero, not_true_eq_false, not_false_eq_true, false_implies, true_implies, c1, hK]
      refine ⟨fun z => absurd z (by omega), fun _ => ⟨fun z => ?_, fun z => t0 (fun y => z (y.2.2.2 p (by omega)))⟩⟩
      exact ih (p + 1) (by omega) (fun q hq2 => by
        by_cases y : q = p
        · rw [y]; exact z
        · exact hq q (by omega))
  exact L (n / 2) 0 (by omega) (fun q hq => absurd hq (by omega))
/-- what it has found: places, rows by place -/
def jfC (A : jaS) (R : Nat → jvA) (K : Nat) (L : List Nat) : Prop := A.1 16 0 0 = nI L.length ∧ (∀ (j : Nat) (q : Nat), L[j]? = some q → A.1 17 0 j = nI q ∧ ∀ k, k < K → A.1 19 0 (10 * j + k) = R q k) ∧ ∀ q, q ∈ L → q ≤ 40
set_option maxHeartbeats 2000000 in
theorem sp_Se_noteIfSo {D : Nat} (hD : 1 ≤ D) {kk : jaT → Prop} {τ : jaT} {c : Nat → Nat} {R : Nat → jvA} {L : List Nat} {k n K q : Nat} (hk : k ≠ 0) (hT : jfTo c n K) (hc : ∀ j, j < n → (τ 0).1 1 0 j = nI (c j) ∧ c j < 256) (hK10 : K ≤ 10) (hr : ∀ i, i < K → (τ 0).1 18 0 i = R q i) (hC : jfC (τ 0) R K L) (hL : L.length ≤ 40) (hq : q ≤ 40)
    (h : ∀ τ', jfC (τ' 0) R K (jaIf1 (jfSo (R q) c n) (L ++ [q]) L) → jfF k τ τ' → (τ' 0).1 18 = (τ 0).1 18 → (τ' 0).1 16 0 2 = (τ 0).1 16 0 2 → kk τ') : jaDe D jy_Se_noteIfSo [.inr (.inr (16, 0, 0)), .inl (nI q), .inr (.inr (1, 0, 0)), .inl (nI n)] τ (jaKv kk) := by
  obtain ⟨T1, T2, T3, T4⟩ := hT
  obtain ⟨D, rfl, hD⟩ := jaSuc hD
  apply js_Se_noteIfSo
  have G : ∀ m p, p + m = n / 2 → (∀ y, y < p → R q (c (2 * y)) = nI (c (2 * y + 1))) → jc_Se_noteIfSo_1 D kk (nI q) (nI n) (nI (2 * p)) τ := by
    intro m
    induction m with
    | zero =>
      intro p hp hy
      have so : jfSo (R q) c n := fun y hy2 => hy y (by omega)
      rw [jaIf1_t so] at h
      obtain ⟨C1, C2, C3⟩ := hC
      apply jb_Se_noteIfSo_1
      simp (disch := first | omega | decide) only [jaU_eq, jaU_U, nI_add, pk_mul, jaIx_nI, vp_inT, true_and, and_true, ↓jaO0, ↓jaO1, nI_z, nI_z2, nI_z3, nI_z4, nI_z5, nI_lt', nI_le', nI_eq', jaUI_at, jaPt_eq, jaPt_ne, jaUI_o, jaUI_2, jaUL_at, jaUL_o, jaUL_1, jaB_z, jaB_1, ↓jaB_01, Classical.not_not, and_self, true_or, or_true, nI_11, Nat.reduceEqDiff, Nat.reduceAdd, Nat.reduceMul, Nat.add_zero, Nat.zero_add, Nat.mul_zero, not_true_eq_false, not_false_eq_true, false_implies, true_implies, C1]
      refine ⟨fun _ => ?_, fun z => absurd (show n ≤ 2 * p + 1 by omega) z⟩
      refine jaFor (C := fun i => ∀ τ', jfF k τ τ' → (τ' 0).1 18 = (τ 0).1 18 → (τ' 0).1 16 = (τ 0).1 16 → (τ' 0).1 17 0 = jaPt ((τ 0).1 17 0) L.length (nI q) → (∀ j, j < 10 * L.length → (τ' 0).1 19 0 j = (τ 0).1 19 0 j) → (∀ i', i' < i → (τ' 0).1 19 0 (10 * L.length + i') = (τ 0).1 18 0 i') → jc_Se_noteIfSo_4 D kk (nI q) (nI n) (nI i) τ') (N := 10) ?_ (fun i hi ih => ?_) _ (jfF.u hk jfF.rfl (by decide) (by decide)) ?_ ?_ ?_ (fun j _ => ?_) (fun i' hi' => absurd hi' (by omega))
      · intro τ' f e18 e16 e17 e19 a
        have g1 : (τ' 0).1 16 0 0 = nI L.length := by rw [e16]; exact C1
        apply jb_Se_noteIfSo_4
        simp (disch := first | omega | decide) only [jaU_eq, jaU_U, nI_add, pk_mul, jaIx_nI, vp_inT, true_and, and_true, ↓jaO0, ↓jaO1, nI_z, nI_z2, nI_z3, nI_z4, nI_z5, nI_lt', nI_le', nI_eq', jaUI_at, jaPt_eq, jaPt_ne, jaUI_o, jaUI_2, jaUL_at, jaUL_o, jaUL_1, jaB_z, jaB_1, ↓jaB_01, Classical.not_not, and_self, true_or, or_true, nI_11, Nat.reduceEqDiff, Nat.reduceAdd, Nat.reduceMul, Nat.add_zero, Nat.zero_add, Nat.mul_zero, not_true_eq_false, not_false_eq_true, false_implies, true_implies, g1]
        refine ⟨fun _ => ?_, fun q => absurd (by omega) q⟩
        refine h _ ⟨?_, fun j y hj => ?_, fun y hy2 => ?_⟩ (f.u hk (by decide) (by decide)) ?_ ?_
        · rw [jaU_eq, List.length_append]
          simp (disch := first | omega | decide) only [jaU_eq, jaU_U, nI_add, pk_mul, jaIx_nI, vp_inT, true_and, and_true, ↓jaO0, ↓jaO1, nI_z, nI_z2, nI_z3, nI_z4, nI_z5, nI_lt', nI_le', nI_eq', jaUI_at, jaPt_eq, jaPt_ne, jaUI_o, jaUI_2, jaUL_at, jaUL_o, jaUL_1, jaB_z, jaB_1, ↓jaB_01, Classical.not_not, and_self, true_or, or_true, nI_11, Nat.reduceEqDiff, Nat.reduceAdd, Nat.reduceMul, Nat.add_zero, Nat.zero_add, Nat.mul_zero, not_true_eq_false, not_false_eq_true, false_implies, true_implies]
          rfl
        · rw [jaU_eq, jaUI_o (by decide), jaUI_o (by decide), e17]
          rcases jgAp hj with ⟨b1, b2⟩ | ⟨b1, rfl⟩
          · obtain ⟨d1, d2⟩ := C2 j y b2
            refine ⟨by rw [jaPt_ne (by omega)]; exact d1, fun i hi => ?_⟩
            rw [e19 _ (by omega)]
            exact d2 i hi
          · subst b1
            refine ⟨jaPt_eq, fun i hi => ?_⟩
            rw [a i (by omega)]
            exact hr i hi
        · rcases List.mem_append.mp hy2 with b | b
          · exact C3 y b
          · rw [List.mem_singleton.mp b]; exact hq
        · rw [jaU_eq, jaUI_o (by decide)]; exact e18
        · rw [jaU_eq, jaUI_at, jaPt_ne (by decide), e16]
      · intro τ' f e18 e16 e17 e19 a
        have g1 : (τ' 0).1 16 0 0 = nI L.length := by rw [e16]; exact C1
        apply jb_Se_noteIfSo_4
        simp (disch := first | omega | decide) only [jaU_eq, jaU_U, nI_add, pk_mul, jaIx_nI, vp_inT, true_and, and_true, ↓jaO0, ↓jaO1, nI_z, nI_z2, nI_z3, nI_z4, nI_z5, nI_lt', nI_le', nI_eq', jaUI_at, jaPt_eq, jaPt_ne, jaUI_o, jaUI_2, jaUL_at, jaUL_o, jaUL_1, jaB_z, jaB_1, ↓jaB_01, Classical.not_not, and_self, true_or, or_true, nI_11, Nat.reduceEqDiff, Nat.reduceAdd, Nat.reduceMul, Nat.add_zero, Nat.zero_add, Nat.mul_zero, not_true_eq_false, not_false_eq_true, false_implies, true_implies, g1, e18]
        rw [show L.length * 10 + i = 10 * L.length + i by omega]
        refine ⟨fun q => absurd q (by omega), fun _ => ?_⟩
        refine ih _ (f.u hk (by decide) (by decide)) ?_ ?_ ?_ (fun j hj => ?_) (fun i' hi' => ?_)
        · rw [jaU_eq, jaUI_o (by decide)]; exact e18
        · rw [jaU_eq, jaUI_o (by decide)]; exact e16
        · rw [jaU_eq, jaUI_o (by decide)]; exact e17
        · rw [jaU_eq, jaUI_at, jaPt_ne (by omega)]; exact e19 j hj
        · rw [jaU_eq, jaUI_at]
          by_cases z : i' = i
          · rw [z, jaPt_eq]
          · rw [jaPt_ne (by omega)]; exact a i' (by omega)
      · rw [jaU_eq, jaUI_o (by decide)]
      · rw [jaU_eq, jaUI_o (by decide)]
      · rw [jaU_eq, jaUI_at]
      · rw [jaU_eq, jaUI_o (by decide)]
    | succ m ih =>
      intro p hp hy
      obtain ⟨c1, c2⟩ := hc (2 * p) (by omega)
      obtain ⟨c3, c4⟩ := hc (2 * p + 1) (by omega)
      have cK := T4 p (by omega)
      have r1 := hr (c (2 * p)) cK
      apply jb_Se_noteIfSo_1
      simp (disch := first | omega | decide) only [jaU_eq, jaU_U, nI_add, pk_mul, jaIx_nI, vp_inT, true_and, and_true, ↓jaO0, ↓jaO1, nI_z, nI_z2, nI_z3, nI_z4, nI_z5, nI_lt', nI_le', nI_eq', jaUI_at, jaPt_eq, jaPt_ne, jaUI_o, jaUI_2, jaUL_at, jaUL_o, jaUL_1, jaB_z, jaB_1, ↓jaB_01, Classical.not_not, and_self, true_or, or_true, nI_11, Nat.reduceEqDiff, Nat.reduceAdd, Nat.reduceMul, Nat.add_zero, Nat.zero_add, Nat.mul_zero, not_true_eq_false, not_false_eq_true, false_implies, true_implies, c1, c3, r1]
      refine ⟨fun z => absurd z (by omega), fun _ => ⟨fun z => ?_, fun z => ?_⟩⟩
      · exact ih (p + 1) (by omega) (fun y hy2 => by
          by_cases w : y = p
          · rw [w]; exact z
          · exact hy y (by omega))
      · rw [jaIf1_f (fun so => z (so p (by omega)))] at h
        exact h τ hC jfF.rfl rfl rfl
  exact G (n / 2) 0 (by omega) (fun y hy => absurd hy (by omega))
/-- rows found, by number -/
def jfV (R : Nat → jvA) (L : List Nat) (j : Nat) : jvA := match L[j]? with
  | some q => R q
  | none => fun _ => 0
theorem jfV_s {R : Nat → jvA} {L : List Nat} {j q : Nat} (h : L[j]? = some q) : jfV R L j = R q := by
  unfold jfV
  rw [h]
theorem jfGet {A : Type} : ∀ (l : List A) (j : Nat), j < l.length → ∃ q, l[j]? = some q
  | [], _, h => absurd h (by simp)
  | a :: l, 0, _ => ⟨a, rfl⟩
  | a :: l, j + 1, h => jfGet l j (by rw [List.length_cons] at h; omega)
theorem jfC.v {A : jaS} {R : Nat → jvA} {K j k : Nat} {L : List Nat} (h : jfC A R K L) (hj : j < L.length) (hk : k < K) : A.1 19 0 (10 * j + k) = jfV R L j k := by
  obtain ⟨q, hq⟩ := jfGet L j hj
  rw [jfV_s hq]
  exact (h.2.1 j q hq).2 k hk
theorem sp_Se_countLike {D : Nat} (hD : 1 ≤ D) {kk : Int32 → jaT → Prop} {τ : jaT} {R : Nat → jvA} {L : List Nat} {K k i : Nat} (hC : jfC (τ 0) R K L) (hL : L.length ≤ 41) (hk : k < K) (hK : K ≤ 10) (hi : i < L.length) (h : kk (nI (jfCn (jfV R L) L.length k i)) τ) : jaDe D jy_Se_countLike [.inr (.inr (16, 0, 0)), .inl (nI k), .inl (nI i)] τ (jaKi kk) := by
  have C1 := hC.1
  obtain ⟨D, rfl, hD⟩ := jaSuc hD
  apply js_Se_countLike
  refine jaFor (C := fun j => jc_Se_countLike_1 D kk (nI k) (nI i) (nI (jaCnt (fun j => jfV R L j k = jfV R L i k) j)) (nI j) τ) (N := L.length) ?_ (fun j hj ih => ?_)
  · apply jb_Se_countLike_1
    simp (disch := first | omega | decide) only [jaU_eq, jaU_U, nI_add, pk_mul, jaIx_nI, vp_inT, true_and, and_true, ↓jaO0, ↓jaO1, nI_z, nI_z2, nI_z3, nI_z4, nI_z5, nI_lt', nI_le', nI_eq', jaUI_at, jaPt_eq, jaPt_ne, jaUI_o, jaUI_2, jaUL_at, jaUL_o, jaUL_1, jaB_z, jaB_1, ↓jaB_01, Classical.not_not, and_self, true_or, or_true, nI_11, Nat.reduceEqDiff, Nat.reduceAdd, Nat.reduceMul, Nat.add_zero, Nat.zero_add, Nat.mul_zero, not_true_eq_false, not_false_eq_true, false_implies, true_implies, C1]
    refine ⟨fun _ => ?_, fun q => absurd (by omega) q⟩
    exact h
  · have v1 := hC.v hj hk
    have v2 := hC.v hi hk
    have hl := jaCnt_le (p := fun j => jfV R L j k = jfV R L i k) j
    apply jb_Se_countLike_1
    simp (disch := first | omega | decide) only [jaU_eq, jaU_U, nI_add, pk_mul, jaIx_nI, vp_inT, true_and, and_true, ↓jaO0, ↓jaO1, nI_z, nI_z2, nI_z3, nI_z4, nI_z5, nI_lt', nI_le', nI_eq', jaUI_at, jaPt_eq, jaPt_ne, jaUI_o, jaUI_2, jaUL_at, jaUL_o, jaUL_1, jaB_z, jaB_1, ↓jaB_01, Classical.not_not, and_self, true_or, or_true, nI_11, Nat.reduceEqDiff, Nat.reduceAdd, Nat.reduceMul, Nat.add_zero, Nat.zero_add, Nat.mul_zero, not_true_eq_false, not_false_eq_true, false_implies, true_implies, C1]
    rw [show j * 10 + k = 10 * j + k by omega, show i * 10 + k = 10 * i + k by omega]
    simp (disch := first | omega | decide) only [jaU_eq, jaU_U, nI_add, pk_mul, jaIx_nI, vp_inT, true_and, and_true, ↓jaO0, ↓jaO1, nI_z, nI_z2, nI_z3, nI_z4, nI_z5, nI_lt', nI_le', nI_eq', jaUI_at, jaPt_eq, jaPt_ne, jaUI_o, jaUI_2, jaUL_at, jaUL_o, jaUL_1, jaB_z, jaB_1, ↓jaB_01, Classical.not_not, and_self, true_or, or_true, nI_11, Nat.reduceEqDiff, Nat.reduceAdd, Nat.reduceMul, Nat.add_zero, Nat.zero_add, Nat.mul_zero, not_true_eq_false, not_false_eq_true, false_implies, true_implies, v1, v2]
    refine ⟨fun q => absurd q (by omega), fun _ => ?_⟩
    refine ⟨fun q => ?_, fun q => ?_⟩
    · rwa [jaCnt_f (p := fun j => jfV R L j k = jfV R L i k) q] at ih
    · rwa [jaCnt_t (p := fun j => jfV R L j k = jfV R L i k) q] at ih
set_option maxHeartbeats 2000000 in
theorem sp_Se_chooseKey {D : Nat} (hD : 3 ≤ D) {kk : Int32 → jaT → Prop} {τ : jaT} {R : Nat → jvA} {L : List Nat} {K : Nat} (hC : jfC (τ 0) R K L) (hL : L.length ≤ 41) (hK : K ≤ 10) (hK1 : 1 ≤ K) (h : kk (nI (jfAk (fun k => jfMx (jfV R L) L.length k L.length) K)) τ) : jaDe D jy_Se_chooseKey [.inr (.inr (16, 0, 0)), .inl (nI K)] τ (jaKi kk) := by
  have C1 := hC.1
  obtain ⟨D, rfl, hD⟩ := jaSuc hD
  apply js_Se_chooseKey
  have IN : ∀ k x2 x3, k < K → (∀ y z5 z6, y = jfMx (jfV R L) L.length k L.length → (nI y < nI x3 → jc_Se_chooseKey_1 D kk (nI K) (nI k) (nI y) (nI (k + 1)) z5 z6 τ) ∧ (¬ nI y < nI x3 → jc_Se_chooseKey_1 D kk (nI K) x2 (nI x3) (nI (k + 1)) z5 z6 τ)) → jc_Se_chooseKey_2 D kk (nI K) x2 (nI x3) (nI k) (nI 0) (nI 0) τ := by
    intro k x2 x3 hk H
    refine jaFor (C := fun i => jc_Se_chooseKey_2 D kk (nI K) x2 (nI x3) (nI k) (nI (jfMx (jfV R L) L.length k i)) (nI i) τ) (N := L.length) ?_ (fun i hi ih => ?_)
    · have H := H _ (some (.inl (nI (jfMx (jfV R L) L.length k L.length)))) (some (.inl (nI L.length))) rfl
      apply jb_Se_chooseKey_2
      rw [C1, nI_add]
      refine ⟨fun _ => ⟨fun z => ?_, fun z => ?_⟩, fun z => absurd (by rw [nI_le' (by omega) (by omega)]; exact Nat.le_refl _) z⟩
      · exact H.2 (fun y => by rw [← Int32.not_le] at y; exact y z)
      · exact H.1 (Int32.not_le.mp z)
    · have hm := jfMx_l (V := jfV R L) (m := L.length) (k := k) i
      have hcn := jaCnt_le (p := fun j => jfV R L j k = jfV R L i k) L.length
      apply jb_Se_chooseKey_2
      simp (disch := first | omega | decide) only [jaU_eq, jaU_U, nI_add, pk_mul, jaIx_nI, vp_inT, true_and, and_true, ↓jaO0, ↓jaO1, nI_z, nI_z2, nI_z3, nI_z4, nI_z5, nI_lt', nI_le', nI_eq', jaUI_at, jaPt_eq, jaPt_ne, jaUI_o, jaUI_2, jaUL_at, jaUL_o, jaUL_1, jaB_z, jaB_1, ↓jaB_01, Classical.not_not, and_self, true_or, or_true, nI_11, Nat.reduceEqDiff, Nat.reduceAdd, Nat.reduceMul, Nat.add_zero, Nat.zero_add, Nat.mul_zero, not_true_eq_false, not_false_eq_true, false_implies, true_implies, C1]
      refine ⟨fun q => absurd q (by omega), fun _ => ?_⟩
      refine sp_Se_countLike (by omega) hC hL hk hK hi ?_
      refine sp_JM_max (by omega) (by omega) (by unfold jfCn; omega) ?_
      exact ih
  have OUT : ∀ m k z5 z6, k + m = K → 1 ≤ k → jc_Se_chooseKey_1 D kk (nI K) (nI (jfAk (fun k => jfMx (jfV R L) L.length k L.length) k)) (nI (jfMx (jfV R L) L.length (jfAk (fun k => jfMx (jfV R L) L.length k L.length) k) L.length)) (nI k) z5 z6 τ := by
    intro m
    induction m with
    | zero =>
      intro k z5 z6 hk hk1
      have : k = K := by omega
      subst this
      apply jb_Se_chooseKey_1
      refine ⟨fun _ => h, fun z => absurd (by rw [nI_le' (by omega) (by omega)]; exact Nat.le_refl _) z⟩
    | succ m ih =>
      intro k z5 z6 hk hk1
      apply jb_Se_chooseKey_1
      refine ⟨fun z => absurd z (by rw [nI_le' (by omega) (by omega)]; omega), fun _ => ?_⟩
      refine IN k _ _ (by omega) (fun y z5 z6 hy => ?_)
      have l1 := jfMx_l (V := jfV R L) (m := L.length) (k := k) L.length
      have l2 := jfMx_l (V := jfV R L) (m := L.length) (k := jfAk (fun k => jfMx (jfV R L) L.length k L.length) k) L.length
      have ih := ih (k + 1) z5 z6 (by omega) (by omega)
      have e : jfAk (fun k => jfMx (jfV R L) L.length k L.length) (k + 1) = jaIf1 (0 < k ∧ jfMx (jfV R L) L.length k L.length < jfMx (jfV R L) L.length (jfAk (fun k => jfMx (jfV R L) L.length k L.length) k) L.length) k (jfAk (fun k => jfMx (jfV R L) L.length k L.length) k) := rfl
      rw [hy]
      refine ⟨fun z => ?_, fun z => ?_⟩
      · rw [nI_lt' (by omega) (by omega)] at z
        rw [jaIf1_t ⟨by omega, z⟩] at e
        rw [e] at ih
        exact ih
      · rw [nI_lt' (by omega) (by omega)] at z
        rw [jaIf1_f (fun y => z y.2)] at e
        rw [e] at ih
        exact ih
  rw [C1]
  simp (disch := first | omega | decide) only [jaU_eq, jaU_U, nI_add, pk_mul, jaIx_nI, vp_inT, true_and, and_true, ↓jaO0, ↓jaO1, nI_z, nI_z2, nI_z3, nI_z4, nI_z5, nI_lt', nI_le', nI_eq', jaUI_at, jaPt_eq, jaPt_ne, jaUI_o, jaUI_2, jaUL_at, jaUL_o, jaUL_1, jaB_z, jaB_1, ↓jaB_01, Classical.not_not, and_self, true_or, or_true, nI_11, Nat.reduceEqDiff, Nat.reduceAdd, Nat.reduceMul, Nat.add_zero, Nat.zero_add, Nat.mul_zero, not_true_eq_false, not_false_eq_true, false_implies, true_implies]
  apply jb_Se_chooseKey_1
  refine ⟨fun z => absurd z (by rw [show (nI 0 : Int32) = nI 0 from rfl, nI_le' (by omega) (by omega)]; omega), fun _ => ?_⟩
  refine IN 0 _ _ (by omega) (fun y z5 z6 hy => ?_)
  have l1 := jfMx_l (V := jfV R L) (m := L.length) (k := 0) L.length
  refine ⟨fun _ => ?_, fun z => absurd (by rw [nI_lt' (by omega) (by omega)]; omega) z⟩
  rw [hy]
  have e : jfAk (fun k => jfMx (jfV R L) L.length k L.length) 1 = 0 := by
    show jaIf1 (0 < 0 ∧ _) 0 0 = 0
    rw [jaIf1_f (fun z => absurd z.1 (by decide))]
  have o := OUT (K - 1) 1 z5 z6 (by omega) (by omega)
  rw [e] at o
  exact o
end
