section
/-! the reference: so -/
def jfD (S : jaS) (R : Nat → jvA) (K : Nat) (L : List Nat) : Prop := S.1 70 0 37 = nI L.length ∧ (∀ (j : Nat) (q : Nat), L[j]? = some q → S.1 86 0 j = nI q ∧ ∀ k, k < K → S.1 87 0 (10 * j + k) = R q k) ∧ ∀ q, q ∈ L → q ≤ 40
theorem jfD.v {A : jaS} {R : Nat → jvA} {K j k : Nat} {L : List Nat} (h : jfD A R K L) (hj : j < L.length) (hk : k < K) : A.1 87 0 (10 * j + k) = jfV R L j k := by
  obtain ⟨q, hq⟩ := jfGet L j hj
  rw [jfV_s hq]
  exact (h.2.1 j q hq).2 k hk
theorem sp_M_octet {D : Nat} (hD : 1 ≤ D) {kk : Int32 → jaT → Prop} {σ : jaT} {S : jaS} {c j : Nat} (hj : j < 940) (hc : S.1 71 0 j &&& nI 255 = nI c) (h : kk (nI c) (jaU σ 20 S)) : jaDe D jy_M_octet [jaMo, .inl (nI j)] (jaU σ 20 S) (jaKi kk) := by
  obtain ⟨D, rfl, hD⟩ := jaSuc hD
  apply js_M_octet
  simp (disch := first | omega | decide) only [jaU_eq, jaU_U, nI_add, pk_mul, jaIx_nI, vp_inT, true_and, and_true, ↓jaO0, ↓jaO1, nI_z, nI_z2, nI_z3, nI_z4, nI_z5, nI_lt', nI_le', nI_eq', jaUI_at, jaPt_eq, jaPt_ne, jaUI_o, jaUI_2, jaUL_at, jaUL_o, jaUL_1, jaB_z, jaB_1, ↓jaB_01, Classical.not_not, and_self, true_or, or_true, nI_11, Nat.reduceEqDiff, Nat.reduceAdd, Nat.reduceMul, Nat.add_zero, Nat.zero_add, Nat.mul_zero, not_true_eq_false, not_false_eq_true, false_implies, true_implies, hc]
  exact h
theorem sp_M_isSo {D : Nat} (hD : 2 ≤ D) {kk : Int32 → jaT → Prop} {σ : jaT} {S : jaS} {c : Nat → Nat} {r : jvA} {n K : Nat} (hT : jfTo c n K) (hK : K ≤ 10) (hc : ∀ j, j < n → S.1 71 0 j &&& nI 255 = nI (c j)) (h3 : S.1 70 0 3 = nI n) (hr : ∀ i, i < K → S.1 81 0 i = r i) (h : kk (jaB (jfSo r c n)) (jaU σ 20 S)) : jaDe D jy_M_isSo [jaMo] (jaU σ 20 S) (jaKi kk) := by
  obtain ⟨T1, T2, T3, T4⟩ := hT
  obtain ⟨D, rfl, hD⟩ := jaSuc hD
  apply js_M_isSo
  have L : ∀ m p (b : Prop), p + m = n / 2 → (b ↔ ∀ y, y < p → r (c (2 * y)) = nI (c (2 * y + 1))) → jc_M_isSo_1 D kk (jaB b) (nI (2 * p)) (jaU σ 20 S) := by
    intro m
    induction m with
    | zero =>
      intro p b hp hb
      have e : b ↔ jfSo r c n := hb.trans ⟨fun z y hy => z y (by omega), fun z y hy => z y (by omega)⟩
      rw [← jaB_c e] at h
      apply jb_M_isSo_1
      rw [jaU_eq, h3]
      refine ⟨fun _ => ⟨of_eq_true jaB_01, h⟩, fun z => absurd (by rw [nI_le' (by omega) (by omega)]; omega) z⟩
    | succ m ih =>
      intro p b hp hb
      have cK := T4 p (by omega)
      have r1 := hr (c (2 * p)) cK
      have st : ∀ Q : Prop, (Q ↔ b ∧ r (c (2 * p)) = nI (c (2 * p + 1))) → jc_M_isSo_1 D kk (jaB Q) (nI (2 * (p + 1))) (jaU σ 20 S) := fun Q hQ => by
        refine ih (p + 1) Q (by omega) ?_
        rw [hQ, hb]
        constructor
        · rintro ⟨y1, y2⟩ y hy
          by_cases w : y = p
          · rw [w]; exact y2
          · exact y1 y (by omega)
        · intro y1
          exact ⟨fun y hy => y1 y (by omega), y1 p (by omega)⟩
      apply jb_M_isSo_1
      simp (disch := first | omega | decide) only [jaU_eq, jaU_U, nI_add, pk_mul, jaIx_nI, vp_inT, true_and, and_true, ↓jaO0, ↓jaO1, nI_z, nI_z2, nI_z3, nI_z4, nI_z5, nI_lt', nI_le', nI_eq', jaUI_at, jaPt_eq, jaPt_ne, jaUI_o, jaUI_2, jaUL_at, jaUL_o, jaUL_1, jaB_z, jaB_1, ↓jaB_01, Classical.not_not, and_self, true_or, or_true, nI_11, Nat.reduceEqDiff, Nat.reduceAdd, Nat.reduceMul, Nat.add_zero, Nat.zero_add, Nat.mul_zero, not_true_eq_false, not_false_eq_true, false_implies, true_implies, h3]
      refine ⟨fun z => absurd z (by omega), fun _ => ⟨fun z => ?_, fun z => ?_⟩⟩
      · have := st False ⟨fun y => y.elim, fun y => absurd y.1 z⟩
        rwa [jaB_f (fun y => y)] at this
      · refine sp_M_octet (by omega) (by omega) (hc _ (by omega)) ?_
        refine ⟨vp_in_nI (by omega) (by decide), ?_⟩
        refine sp_M_octet (by omega) (by omega) (hc _ (by omega)) ?_
        simp (disch := first | omega | decide) only [jaU_eq, jaU_U, nI_add, pk_mul, jaIx_nI, vp_inT, true_and, and_true, ↓jaO0, ↓jaO1, nI_z, nI_z2, nI_z3, nI_z4, nI_z5, nI_lt', nI_le', nI_eq', jaUI_at, jaPt_eq, jaPt_ne, jaUI_o, jaUI_2, jaUL_at, jaUL_o, jaUL_1, jaB_z, jaB_1, ↓jaB_01, Classical.not_not, and_self, true_or, or_true, nI_11, Nat.reduceEqDiff, Nat.reduceAdd, Nat.reduceMul, Nat.add_zero, Nat.zero_add, Nat.mul_zero, not_true_eq_false, not_false_eq_true, false_implies, true_implies, r1]
        refine ⟨fun z2 => ?_, fun z2 => ?_⟩
        · have := st False ⟨fun y => y.elim, fun y => absurd y.2 z2⟩
          rwa [jaB_f (fun y => y)] at this
        · have := st True ⟨fun _ => ⟨z, z2⟩, fun _ => trivial⟩
          rwa [jaB_t trivial] at this
  have := L (n / 2) 0 True (by omega) ⟨fun _ y hy => absurd hy (by omega), fun _ => trivial⟩
  rwa [jaB_t trivial] at this
set_option maxHeartbeats 1000000 in
theorem sp_M_leftBy {D : Nat} (hD : 2 ≤ D) {kk : Int32 → jaT → Prop} {σ : jaT} {S : jaS} {R : Nat → jvA} {L : List Nat} {K k : Nat} (hC : jfD S R K L) (hL : L.length ≤ 41) (hk : k < K) (hK : K ≤ 10) (h : kk (nI (jfMx (jfV R L) L.length k L.length)) (jaU σ 20 S)) : jaDe D jy_M_leftBy [jaMo, .inl (nI k)] (jaU σ 20 S) (jaKi kk) := by
  have C1 := hC.1
  obtain ⟨D, rfl, hD⟩ := jaSuc hD
  apply js_M_leftBy
  have O : ∀ m i z4 z5, i + m = L.length → jc_M_leftBy_1 D kk (nI k) (nI (jfMx (jfV R L) L.length k i)) (nI i) z4 z5 (jaU σ 20 S) := by
    intro m
    induction m with
    | zero =>
      intro i z4 z5 hi
      have : i = L.length := by omega
      subst this
      apply jb_M_leftBy_1
      simp (disch := first | omega | decide) only [jaU_eq, jaU_U, nI_add, pk_mul, jaIx_nI, vp_inT, true_and, and_true, ↓jaO0, ↓jaO1, nI_z, nI_z2, nI_z3, nI_z4, nI_z5, nI_lt', nI_le', nI_eq', jaUI_at, jaPt_eq, jaPt_ne, jaUI_o, jaUI_2, jaUL_at, jaUL_o, jaUL_1, jaB_z, jaB_1, ↓jaB_01, Classical.not_not, and_self, true_or, or_true, nI_11, Nat.reduceEqDiff, Nat.reduceAdd, Nat.reduceMul, Nat.add_zero, Nat.zero_add, Nat.mul_zero, not_true_eq_false, not_false_eq_true, false_implies, true_implies, C1]
      refine ⟨fun _ => ?_, fun q => absurd (by omega) q⟩
      exact h
    | succ m ih =>
      intro i z4 z5 hi
      apply jb_M_leftBy_1
      simp (disch := first | omega | decide) only [jaU_eq, jaU_U, nI_add, pk_mul, jaIx_nI, vp_inT, true_and, and_true, ↓jaO0, ↓jaO1, nI_z, nI_z2, nI_z3, nI_z4, nI_z5, nI_lt', nI_le', nI_eq', jaUI_at, jaPt_eq, jaPt_ne, jaUI_o, jaUI_2, jaUL_at, jaUL_o, jaUL_1, jaB_z, jaB_1, ↓jaB_01, Classical.not_not, and_self, true_or, or_true, nI_11, Nat.reduceEqDiff, Nat.reduceAdd, Nat.reduceMul, Nat.add_zero, Nat.zero_add, Nat.mul_zero, not_true_eq_false, not_false_eq_true, false_implies, true_implies, C1]
      refine ⟨fun q => absurd q (by omega), fun _ => ?_⟩
      have hm := jfMx_l (V := jfV R L) (m := L.length) (k := k) i
      have hil : i < L.length := by omega
      refine jaFor (C := fun j => jc_M_leftBy_2 D kk (nI k) (nI (jfMx (jfV R L) L.length k i)) (nI i) (nI (jaCnt (fun j => jfV R L j k = jfV R L i k) j)) (nI j) (jaU σ 20 S)) (N := L.length) ?_ (fun j hj ih2 => ?_)
      · have hcn := jaCnt_le (p := fun j => jfV R L j k = jfV R L i k) L.length
        apply jb_M_leftBy_2
        simp (disch := first | omega | decide) only [jaU_eq, jaU_U, nI_add, pk_mul, jaIx_nI, vp_inT, true_and, and_true, ↓jaO0, ↓jaO1, nI_z, nI_z2, nI_z3, nI_z4, nI_z5, nI_lt', nI_le', nI_eq', jaUI_at, jaPt_eq, jaPt_ne, jaUI_o, jaUI_2, jaUL_at, jaUL_o, jaUL_1, jaB_z, jaB_1, ↓jaB_01, Classical.not_not, and_self, true_or, or_true, nI_11, Nat.reduceEqDiff, Nat.reduceAdd, Nat.reduceMul, Nat.add_zero, Nat.zero_add, Nat.mul_zero, not_true_eq_false, not_false_eq_true, false_implies, true_implies, C1]
        refine ⟨fun _ => ?_, fun q => absurd (by omega) q⟩
        refine sp_M_greater (by omega) (by omega) (by omega) ?_
        exact ih (i + 1) _ _ (by omega)
      · have v1 := hC.v hj hk
        have v2 := hC.v hil hk
        have hl := jaCnt_le (p := fun j => jfV R L j k = jfV R L i k) j
        apply jb_M_leftBy_2
        simp (disch := first | omega | decide) only [jaU_eq, jaU_U, nI_add, pk_mul, jaIx_nI, vp_inT, true_and, and_true, ↓jaO0, ↓jaO1, nI_z, nI_z2, nI_z3, nI_z4, nI_z5, nI_lt', nI_le', nI_eq', jaUI_at, jaPt_eq, jaPt_ne, jaUI_o, jaUI_2, jaUL_at, jaUL_o, jaUL_1, jaB_z, jaB_1, ↓jaB_01, Classical.not_not, and_self, true_or, or_true, nI_11, Nat.reduceEqDiff, Nat.reduceAdd, Nat.reduceMul, Nat.add_zero, Nat.zero_add, Nat.mul_zero, not_true_eq_false, not_false_eq_true, false_implies, true_implies, C1, v1, v2]
        refine ⟨fun q => absurd q (by omega), fun _ => ?_⟩
        refine ⟨fun q => ?_, fun q => ?_⟩
        · rwa [jaCnt_f (p := fun j => jfV R L j k = jfV R L i k) (fun y => q y.symm)] at ih2
        · rwa [jaCnt_t (p := fun j => jfV R L j k = jfV R L i k) q.symm] at ih2
  exact O L.length 0 none none (by omega)
abbrev jfG : List Nat := [0, 2, 3, 4, 5, 29, 37, 38, 39]
abbrev jfH : List Nat := [80, 81, 86, 87]
set_option maxHeartbeats 4000000 in
theorem sp_M_so {D : Nat} (hD : 7 ≤ D) {kk : Int32 → jaT → Prop} {σ : jaT} {S : jaS} {s d e : jvA} {c : Nat → Nat} {n : Nat} (hn2 : S.1 70 0 2 = nI n) (hn : n ≤ 940) (hc : ∀ j, j < n → S.1 71 0 j &&& nI 255 = nI (c j) ∧ c j < 256) (hs : S.1 72 0 = s) (hd : S.1 75 0 = d) (he : S.1 76 0 = e) (hW : jW s d e)
    (h0 : ¬ jfTo c n (jz s 1) → ∀ S', S'.1 70 0 2 = nI 0 → jaFr [] [0, 2, 3, 4, 5] S S' → kk (-1) (jaU σ 20 S'))
    (h : jfTo c n (jz s 1) → ∀ L, L = jfL (fun i => jfSo (jfR s d e i) c n) (jz s 34 + 1) → ∀ S', jfD S' (jfR s d e) (jz s 1) L → (L.length = 0 → S'.1 70 0 38 = S.1 70 0 38 ∧ S'.1 70 0 39 = S.1 70 0 39) → (¬ L.length = 0 → S'.1 70 0 39 = nI 1 ∧ S'.1 70 0 38 = nI (jfAk (fun k => jfMx (jfV (jfR s d e) L) L.length k L.length) (jz s 1))) → S'.1 70 0 2 = nI 0 → jaFr jfH jfG S S' → kk (nI L.length) (jaU σ 20 S')) :
    jaDe D jy_M_so [jaMo] (jaU σ 20 S) (jaKi kk) := by
  obtain ⟨hK, hK10⟩ := hW.w.2.1
  have hO := hW.o.ord
  obtain ⟨D, rfl, hD⟩ := jaSuc hD
  apply js_M_so
  simp only [jaU_eq, jaU_U]
  have f0 : jaFr [] [0] S (jaUI S 70 0 0 (nI 0)) := jaFr.rfl.uf (by decide)
  refine sp_M_taken (n := n) (by omega) (by simp (disch := first | omega | decide) only [jaU_eq, jaU_U, nI_add, pk_mul, jaIx_nI, vp_inT, true_and, and_true, ↓jaO0, ↓jaO1, nI_z, nI_z2, nI_z3, nI_z4, nI_z5, nI_lt', nI_le', nI_eq', jaUI_at, jaPt_eq, jaPt_ne, jaUI_o, jaUI_2, jaUL_at, jaUL_o, jaUL_1, jaB_z, jaB_1, ↓jaB_01, Classical.not_not, and_self, true_or, or_true, nI_11, Nat.reduceEqDiff, Nat.reduceAdd, Nat.reduceMul, Nat.add_zero, Nat.zero_add, Nat.mul_zero, not_true_eq_false, not_false_eq_true, false_implies, true_implies, hn2]) (fun S1 t3 t2 t4 t5 f1 => ?_)
  have F1 : jaFr [] [0, 2, 3, 4, 5] S S1 := (f0.mono (by decide) (by decide)).trans (f1.mono (by decide) (by decide))
  have s1 : S1.1 72 0 = s := by rw [F1.s 72 (by decide) (by decide)]; exact hs
  have c1 : ∀ j, j < n → S1.1 71 0 j &&& nI 255 = nI (c j) := fun j hj => by rw [F1.s 71 (by decide) (by decide)]; exact (hc j hj).1
  rw [jaU_eq, t3]
  refine sp_M_isIn (by omega) ?_
  simp (disch := first | omega | decide) only [jaU_eq, jaU_U, nI_add, pk_mul, jaIx_nI, vp_inT, true_and, and_true, ↓jaO0, ↓jaO1, nI_z, nI_z2, nI_z3, nI_z4, nI_z5, nI_lt', nI_le', nI_eq', jaUI_at, jaPt_eq, jaPt_ne, jaUI_o, jaUI_2, jaUL_at, jaUL_o, jaUL_1, jaB_z, jaB_1, ↓jaB_01, Classical.not_not, and_self, true_or, or_true, nI_11, Nat.reduceEqDiff, Nat.reduceAdd, Nat.reduceMul, Nat.add_zero, Nat.zero_add, Nat.mul_zero, not_true_eq_false, not_false_eq_true, false_implies, true_implies, t3]
  refine ⟨fun q => h0 (fun z => q ⟨by have := z.1; omega, by have := z.2.1; omega⟩) S1 t2 F1, fun q => ?_⟩
  have n12 : n < 13 := by omega
  obtain ⟨ev1, ev2⟩ := jfEv ⟨n, n12⟩
  simp only [] at ev1 ev2
  rw [ev2]
  refine ⟨fun q2 => ?_, fun q2 => h0 (fun z => by have := z.2.2.1; omega) S1 t2 F1⟩
  -- the KEYS
  have L3 : ∀ m p, p + m = n / 2 → (∀ y, y < p → c (2 * y) < jz s 1) → jc_M_so_3 D kk (nI (2 * p)) (jaU σ 20 S1) := by
    intro m
    induction m with
    | succ m ih =>
      intro p hp hq
      have cb := (hc (2 * p) (by omega)).2
      apply jb_M_so_3
      simp (disch := first | omega | decide) only [jaU_eq, jaU_U, nI_add, pk_mul, jaIx_nI, vp_inT, true_and, and_true, ↓jaO0, ↓jaO1, nI_z, nI_z2, nI_z3, nI_z4, nI_z5, nI_lt', nI_le', nI_eq', jaUI_at, jaPt_eq, jaPt_ne, jaUI_o, jaUI_2, jaUL_at, jaUL_o, jaUL_1, jaB_z, jaB_1, ↓jaB_01, Classical.not_not, and_self, true_or, or_true, nI_11, Nat.reduceEqDiff, Nat.reduceAdd, Nat.reduceMul, Nat.add_zero, Nat.zero_add, Nat.mul_zero, not_true_eq_false, not_false_eq_true, false_implies, true_implies, t3]
      refine ⟨fun z => absurd z (by omega), fun _ => ?_⟩
      refine sp_M_octet (by omega) (by omega) (c1 _ (by omega)) ?_
      refine sp_M_isKey (s := s) (by omega) s1 hK (by omega) ?_
      simp (disch := first | omega | decide) only [jaU_eq, jaU_U, nI_add, pk_mul, jaIx_nI, vp_inT, true_and, and_true, ↓jaO0, ↓jaO1, nI_z, nI_z2, nI_z3, nI_z4, nI_z5, nI_lt', nI_le', nI_eq', jaUI_at, jaPt_eq, jaPt_ne, jaUI_o, jaUI_2, jaUL_at, jaUL_o, jaUL_1, jaB_z, jaB_1, ↓jaB_01, Classical.not_not, and_self, true_or, or_true, nI_11, Nat.reduceEqDiff, Nat.reduceAdd, Nat.reduceMul, Nat.add_zero, Nat.zero_add, Nat.mul_zero, not_true_eq_false, not_false_eq_true, false_implies, true_implies]
      refine ⟨fun z => ?_, fun z => ?_⟩
      · obtain ⟨y, y1, y2⟩ := z
        rw [nI_eq' (by omega) (by omega)] at y2
        exact ih (p + 1) (by omega) (fun w hw => by
          by_cases v : w = p
          · rw [v]; omega
          · exact hq w (by omega))
      · refine h0 (fun y => z ⟨c (2 * p), y.2.2.2 p (by omega), rfl⟩) S1 t2 F1
    | zero =>
      intro p hp hq
      have to : jfTo c n (jz s 1) := ⟨by omega, by omega, by omega, fun y hy => hq y (by omega)⟩
      have h := h to
      have K1 : 1 ≤ jz s 1 := by
        have := hq 0 (by omega)
        omega
      apply jb_M_so_3
      simp (disch := first | omega | decide) only [jaU_eq, jaU_U, nI_add, pk_mul, jaIx_nI, vp_inT, true_and, and_true, ↓jaO0, ↓jaO1, nI_z, nI_z2, nI_z3, nI_z4, nI_z5, nI_lt', nI_le', nI_eq', jaUI_at, jaPt_eq, jaPt_ne, jaUI_o, jaUI_2, jaUL_at, jaUL_o, jaUL_1, jaB_z, jaB_1, ↓jaB_01, Classical.not_not, and_self, true_or, or_true, nI_11, Nat.reduceEqDiff, Nat.reduceAdd, Nat.reduceMul, Nat.add_zero, Nat.zero_add, Nat.mul_zero, not_true_eq_false, not_false_eq_true, false_implies, true_implies, t3]
      refine ⟨fun _ => ?_, fun z => absurd (show n ≤ 2 * p by omega) z⟩
      have f2 : jaFr [] [37] S1 (jaUI S1 70 0 37 (nI 0)) := jaFr.rfl.uf (by decide)
      have z37 : (jaUI S1 70 0 37 (nI 0)).1 70 0 37 = nI 0 := by simp (disch := first | omega | decide) only [jaU_eq, jaU_U, nI_add, pk_mul, jaIx_nI, vp_inT, true_and, and_true, ↓jaO0, ↓jaO1, nI_z, nI_z2, nI_z3, nI_z4, nI_z5, nI_lt', nI_le', nI_eq', jaUI_at, jaPt_eq, jaPt_ne, jaUI_o, jaUI_2, jaUL_at, jaUL_o, jaUL_1, jaB_z, jaB_1, ↓jaB_01, Classical.not_not, and_self, true_or, or_true, nI_11, Nat.reduceEqDiff, Nat.reduceAdd, Nat.reduceMul, Nat.add_zero, Nat.zero_add, Nat.mul_zero, not_true_eq_false, not_false_eq_true, false_implies, true_implies]
      generalize jaUI S1 70 0 37 (nI 0) = S2 at *
      refine sp_M_serialFirst (s := s) (r := S2.1 81 0) (by omega) (by rw [f2.s 72 (by decide) (by decide)]; exact s1) rfl (fun S3 a3 f3 => ?_)
      have F3 : jaFr jfH jfG S S3 := (F1.mono (by decide) (by decide)).trans ((f2.mono (by decide) (by decide)).trans (f3.mono (by decide) (by decide)))
      have r3 : ∀ q, q < jz s 1 → S3.1 81 0 q = jfR s d e 0 q := fun q hq => by
        rw [a3]
        have := jvCp_in (f := S2.1 81 0) (a := 0) (g := s) (b := 15) (n := 10) (show q < 10 by omega)
        rw [Nat.zero_add] at this
        exact this
      have D3 : jfD S3 (jfR s d e) (jz s 1) [] := ⟨by rw [f3.f 37 List.not_mem_nil]; exact z37, fun j q hq => (by cases hq), fun q hq => absurd hq List.not_mem_nil⟩
      have t33 : ∀ S', jaFr jfH [29, 37] S3 S' → S'.1 70 0 3 = nI n := fun S' f => by
        rw [f.f 3 (by decide), f3.f 3 List.not_mem_nil, f2.f 3 (by decide)]; exact t3
      have t23 : ∀ S', jaFr jfH [29, 37] S3 S' → S'.1 70 0 2 = nI 0 := fun S' f => by
        rw [f.f 2 (by decide), f3.f 2 List.not_mem_nil, f2.f 2 (by decide)]; exact t2
      have e38 : ∀ S', jaFr jfH [29, 37] S3 S' → S'.1 70 0 38 = S.1 70 0 38 ∧ S'.1 70 0 39 = S.1 70 0 39 := fun S' f => by
        rw [f.f 38 (by decide), f3.f 38 List.not_mem_nil, f2.f 38 (by decide), F1.f 38 (by decide), f.f 39 (by decide), f3.f 39 List.not_mem_nil, f2.f 39 (by decide), F1.f 39 (by decide)]
        exact ⟨rfl, rfl⟩
      have cc : ∀ S', jaFr jfH jfG S S' → ∀ j, j < n → S'.1 71 0 j &&& nI 255 = nI (c j) := fun S' f j hj => by rw [f.s 71 (by decide) (by decide)]; exact (hc j hj).1
      -- behind a row
      have NT : ∀ i S4 u, i ≤ jz s 34 → jaFr jfH [29, 37] S3 S4 → jfD S4 (jfR s d e) (jz s 1) (jfL (fun i => jfSo (jfR s d e i) c n) i) → (∀ q, q < jz s 1 → S4.1 81 0 q = jfR s d e i q) → (∀ S5 u, jaFr jfH [29, 37] S3 S5 → jfD S5 (jfR s d e) (jz s 1) (jfL (fun i => jfSo (jfR s d e i) c n) (i + 1)) → S5.1 81 0 = S4.1 81 0 → jc_M_so_6 D kk (nI (i + 1)) u (jaU σ 20 S5)) → jaDe D jy_M_isSo [jaMo] (jaU σ 20 S4) (jaKi fun r4 σ3 => (¬ r4 = 0 → vp_in ((σ3 20).1 70 0 37) 41 ∧ (let σ5 : jaT := jaU σ3 20 (jaUI (σ3 20) 86 0 (jaIx ((σ3 20).1 70 0 37)) (nI i)); jc_M_so_9 D kk (nI i) (nI 0) σ5)) ∧ (r4 = 0 → jc_M_so_6 D kk (nI (i + 1)) u σ3)) := by
        intro i S4 u hi f4 D4 r4 HN
        have hll := jfL_l (so := fun i => jfSo (jfR s d e i) c n) i
        have hO2 := hO.2
        have F4 : jaFr jfH jfG S S4 := F3.trans (f4.mono (by decide) (by decide))
        refine sp_M_isSo (r := jfR s d e i) (K := jz s 1) (by omega) to hK10 (cc S4 F4) (t33 S4 f4) r4 ?_
        obtain ⟨D1, D2, D3'⟩ := D4
        rw [jfL] at HN
        simp (disch := first | omega | decide) only [jaU_eq, jaU_U, nI_add, pk_mul, jaIx_nI, vp_inT, true_and, and_true, ↓jaO0, ↓jaO1, nI_z, nI_z2, nI_z3, nI_z4, nI_z5, nI_lt', nI_le', nI_eq', jaUI_at, jaPt_eq, jaPt_ne, jaUI_o, jaUI_2, jaUL_at, jaUL_o, jaUL_1, jaB_z, jaB_1, ↓jaB_01, Classical.not_not, and_self, true_or, or_true, nI_11, Nat.reduceEqDiff, Nat.reduceAdd, Nat.reduceMul, Nat.add_zero, Nat.zero_add, Nat.mul_zero, not_true_eq_false, not_false_eq_true, false_implies, true_implies, D1]
        refine ⟨fun so => ?_, fun so => ?_⟩
        · rw [jaIf1_t so] at HN
          generalize jfL (fun i => jfSo (jfR s d e i) c n) i = L at *
          refine jaFor (C := fun k => ∀ S', jaFr [86, 87] [] S4 S' → S'.1 86 0 = jaPt (S4.1 86 0) L.length (nI i) → (∀ j, j < 10 * L.length → S'.1 87 0 j = S4.1 87 0 j) → (∀ q, q < k → S'.1 87 0 (10 * L.length + q) = S4.1 81 0 q) → jc_M_so_9 D kk (nI i) (nI k) (jaU σ 20 S')) (N := 10) ?_ (fun k hk ih => ?_) _ (jaFr.rfl.ui (by decide) (by decide)) (by rw [jaUI_at]) (fun j _ => by rw [jaUI_o (by decide)]) (fun q hq => absurd hq (by omega))
          · intro S' f' a86 a87 b87
            have g37 : S'.1 70 0 37 = nI L.length := by rw [f'.f 37 List.not_mem_nil]; exact D1
            apply jb_M_so_9
            simp (disch := first | omega | decide) only [jaU_eq, jaU_U, nI_add, pk_mul, jaIx_nI, vp_inT, true_and, and_true, ↓jaO0, ↓jaO1, nI_z, nI_z2, nI_z3, nI_z4, nI_z5, nI_lt', nI_le', nI_eq', jaUI_at, jaPt_eq, jaPt_ne, jaUI_o, jaUI_2, jaUL_at, jaUL_o, jaUL_1, jaB_z, jaB_1, ↓jaB_01, Classical.not_not, and_self, true_or, or_true, nI_11, Nat.reduceEqDiff, Nat.reduceAdd, Nat.reduceMul, Nat.add_zero, Nat.zero_add, Nat.mul_zero, not_true_eq_false, not_false_eq_true, false_implies, true_implies, g37]
            refine ⟨fun _ => ?_, fun q => absurd (by omega) q⟩
            have fz : jaFr jfH [29, 37] S4 (jaUI S' 70 0 37 (nI (L.length + 1))) := (f'.mono (by decide) (by decide)).uf (by decide)
            refine HN _ _ (f4.trans fz) ⟨?_, fun j y hy => ?_, fun y hy => ?_⟩ ?_
            · rw [List.length_append]
              simp (disch := first | omega | decide) only [jaU_eq, jaU_U, nI_add, pk_mul, jaIx_nI, vp_inT, true_and, and_true, ↓jaO0, ↓jaO1, nI_z, nI_z2, nI_z3, nI_z4, nI_z5, nI_lt', nI_le', nI_eq', jaUI_at, jaPt_eq, jaPt_ne, jaUI_o, jaUI_2, jaUL_at, jaUL_o, jaUL_1, jaB_z, jaB_1, ↓jaB_01, Classical.not_not, and_self, true_or, or_true, nI_11, Nat.reduceEqDiff, Nat.reduceAdd, Nat.reduceMul, Nat.add_zero, Nat.zero_add, Nat.mul_zero, not_true_eq_false, not_false_eq_true, false_implies, true_implies]
              rfl
            · rw [jaUI_o (by decide), jaUI_o (by decide), a86]
              rcases jgAp hy with ⟨b1, b2⟩ | ⟨b1, rfl⟩
              · obtain ⟨d1, d2⟩ := D2 j y b2
                refine ⟨by rw [jaPt_ne (by omega)]; exact d1, fun q hq => ?_⟩
                rw [a87 _ (by omega)]
                exact d2 q hq
              · subst b1
                refine ⟨jaPt_eq, fun q hq => ?_⟩
                rw [b87 q (by omega)]
                exact r4 q hq
            · rcases List.mem_append.mp hy with b | b
              · exact D3' y b
              · rw [List.mem_singleton.mp b]; omega
            · rw [jaUI_o (by decide), f'.s 81 (by decide) (by decide)]
          · intro S' f' a86 a87 b87
            have g37 : S'.1 70 0 37 = nI L.length := by rw [f'.f 37 List.not_mem_nil]; exact D1
            have g81 : S'.1 81 0 = S4.1 81 0 := by rw [f'.s 81 (by decide) (by decide)]
            apply jb_M_so_9
            simp (disch := first | omega | decide) only [jaU_eq, jaU_U, nI_add, pk_mul, jaIx_nI, vp_inT, true_and, and_true, ↓jaO0, ↓jaO1, nI_z, nI_z2, nI_z3, nI_z4, nI_z5, nI_lt', nI_le', nI_eq', jaUI_at, jaPt_eq, jaPt_ne, jaUI_o, jaUI_2, jaUL_at, jaUL_o, jaUL_1, jaB_z, jaB_1, ↓jaB_01, Classical.not_not, and_self, true_or, or_true, nI_11, Nat.reduceEqDiff, Nat.reduceAdd, Nat.reduceMul, Nat.add_zero, Nat.zero_add, Nat.mul_zero, not_true_eq_false, not_false_eq_true, false_implies, true_implies, g37, g81]
            refine ⟨fun q => absurd q (by omega), fun _ => ?_⟩
            refine ih _ (f'.ui (by decide) (by decide)) (by rw [jaUI_o (by decide)]; exact a86) (fun j hj => ?_) (fun q hq => ?_)
            · rw [jaUI_at, jaPt_ne (by omega)]; exact a87 j hj
            · rw [jaUI_at]
              by_cases z : q = k
              · rw [z, jaPt_eq]
              · rw [jaPt_ne (by omega)]; exact b87 q (by omega)
        · rw [jaIf1_f so] at HN
          exact HN S4 u f4 ⟨D1, D2, D3'⟩ rfl
      -- all places
      have L6 : ∀ m i S4 u, i + m = jz s 34 + 1 → jaFr jfH [29, 37] S3 S4 → jfD S4 (jfR s d e) (jz s 1) (jfL (fun i => jfSo (jfR s d e i) c n) i) → (∀ q, q < jz s 1 → S4.1 81 0 q = jfR s d e (i - 1) q) → jc_M_so_6 D kk (nI i) u (jaU σ 20 S4) := by
        intro m
        induction m with
        | zero =>
          intro i S4 u hi f4 D4 r4
          have hi2 : i = jz s 34 + 1 := by omega
          subst hi2
          have hO2 := hO.2
          have F4 : jaFr jfH jfG S S4 := F3.trans (f4.mono (by decide) (by decide))
          have s4 : S4.1 72 0 = s := by rw [F4.s 72 (by decide) (by decide)]; exact hs
          have hll := jfL_l (so := fun i => jfSo (jfR s d e i) c n) (jz s 34 + 1)
          have h := h _ rfl
          have e4 := e38 S4 f4
          have z4 := t23 S4 f4
          generalize jfL (fun i => jfSo (jfR s d e i) c n) (jz s 34 + 1) = L at *
          have D1 := D4.1
          apply jb_M_so_6
          simp (disch := first | omega | decide) only [jaU_eq, jaU_U, nI_add, pk_mul, jaIx_nI, vp_inT, true_and, and_true, ↓jaO0, ↓jaO1, nI_z, nI_z2, nI_z3, nI_z4, nI_z5, nI_lt', nI_le', nI_eq', jaUI_at, jaPt_eq, jaPt_ne, jaUI_o, jaUI_2, jaUL_at, jaUL_o, jaUL_1, jaB_z, jaB_1, ↓jaB_01, Classical.not_not, and_self, true_or, or_true, nI_11, Nat.reduceEqDiff, Nat.reduceAdd, Nat.reduceMul, Nat.add_zero, Nat.zero_add, Nat.mul_zero, not_true_eq_false, not_false_eq_true, false_implies, true_implies, s4]
          rw [hO.1]
          simp (disch := first | omega | decide) only [jaU_eq, jaU_U, nI_add, pk_mul, jaIx_nI, vp_inT, true_and, and_true, ↓jaO0, ↓jaO1, nI_z, nI_z2, nI_z3, nI_z4, nI_z5, nI_lt', nI_le', nI_eq', jaUI_at, jaPt_eq, jaPt_ne, jaUI_o, jaUI_2, jaUL_at, jaUL_o, jaUL_1, jaB_z, jaB_1, ↓jaB_01, Classical.not_not, and_self, true_or, or_true, nI_11, Nat.reduceEqDiff, Nat.reduceAdd, Nat.reduceMul, Nat.add_zero, Nat.zero_add, Nat.mul_zero, not_true_eq_false, not_false_eq_true, false_implies, true_implies, D1]
          refine ⟨fun _ => ⟨fun z => ?_, fun z => ?_⟩, fun z => absurd (Nat.lt_succ_self _) z⟩
          · have f5 : jaFr [] [38, 39] S4 (jaUI (jaUI S4 70 0 39 (nI 1)) 70 0 38 (nI 0)) := (jaFr.rfl.uf (by decide)).uf (by decide)
            have LA : ∀ m k S5, k + m = jz s 1 → 1 ≤ k → jaFr [] [38, 39] S4 S5 → S5.1 70 0 39 = nI 1 → S5.1 70 0 38 = nI (jfAk (fun k => jfMx (jfV (jfR s d e) L) L.length k L.length) k) → jc_M_so_14 D kk (nI k) u (jaU σ 20 S5) := by
              intro m
              induction m with
              | zero =>
                intro k S5 hk hk1 f5 b39 b38
                have hk2 : k = jz s 1 := by omega
                subst hk2
                have s5 : S5.1 72 0 = s := by rw [f5.s 72 (by decide) (by decide)]; exact s4
                have g37 : S5.1 70 0 37 = nI L.length := by rw [f5.f 37 (by decide)]; exact D1
                apply jb_M_so_14
                simp (disch := first | omega | decide) only [jaU_eq, jaU_U, nI_add, pk_mul, jaIx_nI, vp_inT, true_and, and_true, ↓jaO0, ↓jaO1, nI_z, nI_z2, nI_z3, nI_z4, nI_z5, nI_lt', nI_le', nI_eq', jaUI_at, jaPt_eq, jaPt_ne, jaUI_o, jaUI_2, jaUL_at, jaUL_o, jaUL_1, jaB_z, jaB_1, ↓jaB_01, Classical.not_not, and_self, true_or, or_true, nI_11, Nat.reduceEqDiff, Nat.reduceAdd, Nat.reduceMul, Nat.add_zero, Nat.zero_add, Nat.mul_zero, not_true_eq_false, not_false_eq_true, false_implies, true_implies, s5, g37]
                rw [hK]
                simp (disch := first | omega | decide) only [jaU_eq, jaU_U, nI_add, pk_mul, jaIx_nI, vp_inT, true_and, and_true, ↓jaO0, ↓jaO1, nI_z, nI_z2, nI_z3, nI_z4, nI_z5, nI_lt', nI_le', nI_eq', jaUI_at, jaPt_eq, jaPt_ne, jaUI_o, jaUI_2, jaUL_at, jaUL_o, jaUL_1, jaB_z, jaB_1, ↓jaB_01, Classical.not_not, and_self, true_or, or_true, nI_11, Nat.reduceEqDiff, Nat.reduceAdd, Nat.reduceMul, Nat.add_zero, Nat.zero_add, Nat.mul_zero, not_true_eq_false, not_false_eq_true, false_implies, true_implies]
                refine ⟨fun _ => ?_, fun q => absurd (by omega) q⟩
                refine h S5 ⟨g37, fun j y hy => ?_, D4.2.2⟩ (fun y => absurd y z) (fun _ => ⟨b39, b38⟩) (by rw [f5.f 2 (by decide)]; exact z4) (F4.trans (f5.mono (by decide) (by decide)))
                rw [f5.s 86 (by decide) (by decide), f5.s 87 (by decide) (by decide)]
                exact D4.2.1 j y hy
              | succ m ih =>
                intro k S5 hk hk1 f5 b39 b38
                have s5 : S5.1 72 0 = s := by rw [f5.s 72 (by decide) (by decide)]; exact s4
                have g37 : S5.1 70 0 37 = nI L.length := by rw [f5.f 37 (by decide)]; exact D1
                have D5 : jfD S5 (jfR s d e) (jz s 1) L := ⟨g37, fun j y hy => by
                  rw [f5.s 86 (by decide) (by decide), f5.s 87 (by decide) (by decide)]
                  exact D4.2.1 j y hy, D4.2.2⟩
                have lk := jfAk_l (f := fun k => jfMx (jfV (jfR s d e) L) L.length k L.length) k hk1
                have l1 := jfMx_l (V := jfV (jfR s d e) L) (m := L.length) (k := k) L.length
                have l2 := jfMx_l (V := jfV (jfR s d e) L) (m := L.length) (k := jfAk (fun k => jfMx (jfV (jfR s d e) L) L.length k L.length) k) L.length
                have e : jfAk (fun k => jfMx (jfV (jfR s d e) L) L.length k L.length) (k + 1) = jaIf1 (0 < k ∧ jfMx (jfV (jfR s d e) L) L.length k L.length < jfMx (jfV (jfR s d e) L) L.length (jfAk (fun k => jfMx (jfV (jfR s d e) L) L.length k L.length) k) L.length) k (jfAk (fun k => jfMx (jfV (jfR s d e) L) L.length k L.length) k) := rfl
                apply jb_M_so_14
                simp (disch := first | omega | decide) only [jaU_eq, jaU_U, nI_add, pk_mul, jaIx_nI, vp_inT, true_and, and_true, ↓jaO0, ↓jaO1, nI_z, nI_z2, nI_z3, nI_z4, nI_z5, nI_lt', nI_le', nI_eq', jaUI_at, jaPt_eq, jaPt_ne, jaUI_o, jaUI_2, jaUL_at, jaUL_o, jaUL_1, jaB_z, jaB_1, ↓jaB_01, Classical.not_not, and_self, true_or, or_true, nI_11, Nat.reduceEqDiff, Nat.reduceAdd, Nat.reduceMul, Nat.add_zero, Nat.zero_add, Nat.mul_zero, not_true_eq_false, not_false_eq_true, false_implies, true_implies, s5]
                rw [hK]
                simp (disch := first | omega | decide) only [jaU_eq, jaU_U, nI_add, pk_mul, jaIx_nI, vp_inT, true_and, and_true, ↓jaO0, ↓jaO1, nI_z, nI_z2, nI_z3, nI_z4, nI_z5, nI_lt', nI_le', nI_eq', jaUI_at, jaPt_eq, jaPt_ne, jaUI_o, jaUI_2, jaUL_at, jaUL_o, jaUL_1, jaB_z, jaB_1, ↓jaB_01, Classical.not_not, and_self, true_or, or_true, nI_11, Nat.reduceEqDiff, Nat.reduceAdd, Nat.reduceMul, Nat.add_zero, Nat.zero_add, Nat.mul_zero, not_true_eq_false, not_false_eq_true, false_implies, true_implies]
                refine ⟨fun q => absurd q (by omega), fun _ => ?_⟩
                refine sp_M_leftBy (by omega) D5 (by omega) (by omega) hK10 ?_
                rw [jaU_eq, b38]
                refine sp_M_leftBy (by omega) D5 (by omega) (by omega) hK10 ?_
                simp (disch := first | omega | decide) only [jaU_eq, jaU_U, nI_add, pk_mul, jaIx_nI, vp_inT, true_and, and_true, ↓jaO0, ↓jaO1, nI_z, nI_z2, nI_z3, nI_z4, nI_z5, nI_lt', nI_le', nI_eq', jaUI_at, jaPt_eq, jaPt_ne, jaUI_o, jaUI_2, jaUL_at, jaUL_o, jaUL_1, jaB_z, jaB_1, ↓jaB_01, Classical.not_not, and_self, true_or, or_true, nI_11, Nat.reduceEqDiff, Nat.reduceAdd, Nat.reduceMul, Nat.add_zero, Nat.zero_add, Nat.mul_zero, not_true_eq_false, not_false_eq_true, false_implies, true_implies]
                refine ⟨fun y => ?_, fun y => ?_⟩
                · rw [jaIf1_f (fun w => by omega)] at e
                  refine ih (k + 1) S5 (by omega) (by omega) f5 b39 ?_
                  rw [e]
                  exact b38
                · rw [jaIf1_t ⟨by omega, by omega⟩] at e
                  refine ih (k + 1) _ (by omega) (by omega) (f5.uf (by decide)) ?_ ?_
                  · simp (disch := first | omega | decide) only [jaU_eq, jaU_U, nI_add, pk_mul, jaIx_nI, vp_inT, true_and, and_true, ↓jaO0, ↓jaO1, nI_z, nI_z2, nI_z3, nI_z4, nI_z5, nI_lt', nI_le', nI_eq', jaUI_at, jaPt_eq, jaPt_ne, jaUI_o, jaUI_2, jaUL_at, jaUL_o, jaUL_1, jaB_z, jaB_1, ↓jaB_01, Classical.not_not, and_self, true_or, or_true, nI_11, Nat.reduceEqDiff, Nat.reduceAdd, Nat.reduceMul, Nat.add_zero, Nat.zero_add, Nat.mul_zero, not_true_eq_false, not_false_eq_true, false_implies, true_implies, b39]
                  · rw [e]
                    simp (disch := first | omega | decide) only [jaU_eq, jaU_U, nI_add, pk_mul, jaIx_nI, vp_inT, true_and, and_true, ↓jaO0, ↓jaO1, nI_z, nI_z2, nI_z3, nI_z4, nI_z5, nI_lt', nI_le', nI_eq', jaUI_at, jaPt_eq, jaPt_ne, jaUI_o, jaUI_2, jaUL_at, jaUL_o, jaUL_1, jaB_z, jaB_1, ↓jaB_01, Classical.not_not, and_self, true_or, or_true, nI_11, Nat.reduceEqDiff, Nat.reduceAdd, Nat.reduceMul, Nat.add_zero, Nat.zero_add, Nat.mul_zero, not_true_eq_false, not_false_eq_true, false_implies, true_implies]
            refine LA (jz s 1 - 1) 1 _ (by omega) (by omega) f5 (by simp (disch := first | omega | decide) only [jaU_eq, jaU_U, nI_add, pk_mul, jaIx_nI, vp_inT, true_and, and_true, ↓jaO0, ↓jaO1, nI_z, nI_z2, nI_z3, nI_z4, nI_z5, nI_lt', nI_le', nI_eq', jaUI_at, jaPt_eq, jaPt_ne, jaUI_o, jaUI_2, jaUL_at, jaUL_o, jaUL_1, jaB_z, jaB_1, ↓jaB_01, Classical.not_not, and_self, true_or, or_true, nI_11, Nat.reduceEqDiff, Nat.reduceAdd, Nat.reduceMul, Nat.add_zero, Nat.zero_add, Nat.mul_zero, not_true_eq_false, not_false_eq_true, false_implies, true_implies]) ?_
            rw [show jfAk (fun k => jfMx (jfV (jfR s d e) L) L.length k L.length) 1 = 0 from by
              show jaIf1 (0 < 0 ∧ _) 0 0 = 0
              rw [jaIf1_f (fun z => absurd z.1 (by decide))]]
            simp (disch := first | omega | decide) only [jaU_eq, jaU_U, nI_add, pk_mul, jaIx_nI, vp_inT, true_and, and_true, ↓jaO0, ↓jaO1, nI_z, nI_z2, nI_z3, nI_z4, nI_z5, nI_lt', nI_le', nI_eq', jaUI_at, jaPt_eq, jaPt_ne, jaUI_o, jaUI_2, jaUL_at, jaUL_o, jaUL_1, jaB_z, jaB_1, ↓jaB_01, Classical.not_not, and_self, true_or, or_true, nI_11, Nat.reduceEqDiff, Nat.reduceAdd, Nat.reduceMul, Nat.add_zero, Nat.zero_add, Nat.mul_zero, not_true_eq_false, not_false_eq_true, false_implies, true_implies]
          · have := h S4 D4 (fun _ => e4) (fun y => absurd z y) z4 F4
            rw [z] at this
            exact this
        | succ m ih =>
          intro i S4 u hi f4 D4 r4
          have hO2 := hO.2
          have F4 : jaFr jfH jfG S S4 := F3.trans (f4.mono (by decide) (by decide))
          have s4 : S4.1 72 0 = s := by rw [F4.s 72 (by decide) (by decide)]; exact hs
          apply jb_M_so_6
          simp (disch := first | omega | decide) only [jaU_eq, jaU_U, nI_add, pk_mul, jaIx_nI, vp_inT, true_and, and_true, ↓jaO0, ↓jaO1, nI_z, nI_z2, nI_z3, nI_z4, nI_z5, nI_lt', nI_le', nI_eq', jaUI_at, jaPt_eq, jaPt_ne, jaUI_o, jaUI_2, jaUL_at, jaUL_o, jaUL_1, jaB_z, jaB_1, ↓jaB_01, Classical.not_not, and_self, true_or, or_true, nI_11, Nat.reduceEqDiff, Nat.reduceAdd, Nat.reduceMul, Nat.add_zero, Nat.zero_add, Nat.mul_zero, not_true_eq_false, not_false_eq_true, false_implies, true_implies, s4]
          rw [hO.1]
          refine ⟨fun z => absurd z (by rw [nI_lt' (by omega) (by omega)]; omega), fun _ => ?_⟩
          refine ⟨fun i0 => ?_, fun i0 => ?_⟩
          · subst i0
            refine NT 0 S4 u (by omega) f4 D4 r4 (fun S5 u5 f5 D5 e5 => ih 1 S5 u5 (by omega) f5 D5 (fun q hq => by rw [e5]; exact r4 q hq))
          · rw [nI_sub (show 1 ≤ i by omega)]
            refine sp_M_serialNext (by omega) s4 (by rw [F4.s 75 (by decide) (by decide)]; exact hd) (by rw [F4.s 76 (by decide) (by decide)]; exact he) rfl hW (i := i - 1) (by omega) (fun S5 a5 f5 => ?_)
            have f45 : jaFr jfH [29, 37] S3 S5 := f4.trans (f5.mono (by decide) (by decide))
            have r5 : ∀ q, q < jz s 1 → S5.1 81 0 q = jfR s d e i q := fun q hq => by
              rw [a5, jvSr1_c hW (by omega) r4 q hq]
              have : i = (i - 1) + 1 := by omega
              rw [this]
              rfl
            have D5 : jfD S5 (jfR s d e) (jz s 1) (jfL (fun i => jfSo (jfR s d e i) c n) i) := ⟨by rw [f5.f 37 (by decide)]; exact D4.1, fun j y hy => by
              rw [f5.s 86 (by decide) (by decide), f5.s 87 (by decide) (by decide)]
              exact D4.2.1 j y hy, D4.2.2⟩
            refine NT i S5 u (by omega) f45 D5 r5 (fun S6 u6 f6 D6 e6 => ih (i + 1) S6 u6 (by omega) f6 D6 (fun q hq => by rw [e6, Nat.add_sub_cancel]; exact r5 q hq))
      exact L6 (jz s 34 + 1) 0 S3 none (by omega) jaFr.rfl D3 r3
  exact L3 (n / 2) 0 (by omega) (fun y hy => absurd hy (by omega))
end
