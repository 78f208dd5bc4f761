section
set_option maxHeartbeats 2000000 in
theorem sp_Sc_runStep {D : Nat} (hD : 2 ≤ D) {kk : Int32 → jaT → Prop} {σ : jaT} {S : jaS} {d e v : jvA} {k p t id K a : Nat} (hq : jRq (S.1 59 0) d p t) (hp : p + 7 ≤ 1008) (ht : jWt K a d t) (ha : a ≤ 4) (hK : K ≤ 10) (hid : id < 64) (hfe : ∀ j, j < a → S.1 67 0 (4 * id + j) = e (9 * id + 5 + j)) (hfl : ∀ j, j < a → e (9 * id + 5 + j) = nI (jz e (9 * id + 5 + j)) ∧ jz e (9 * id + 5 + j) < K)
    (hv : ∀ q, q < K → S.1 42 0 q = v q) (h1 : d t = nI 1 → kk (jaB (jvOk (d (t + 3)) (v (jaIx (jvKey d e id (t + 1)))) (jvSum d e id v t (jz d (t + 4))))) (jaU σ k S)) (h0 : d t = nI 0 → kk (nI 1) (jaU σ k (jaUI S 42 0 (jaIx (jvKey d e id (t + 1))) (jvSum d e id v t (jz d (t + 4)))))) :
    jaDe D jy_Sc_runStep [jcSc k, .inl (nI p), .inr (.inr (67, k, 0)), .inl (nI (4 * id)), .inr (.inr (42, k, 0))] (jaU σ k S) (jaKi kk) := by
  obtain ⟨D, rfl, hD⟩ := jaSuc hD
  obtain ⟨t0, t1, t3, ⟨t4, t4'⟩, t5⟩ := ht
  obtain ⟨c0, c1, c2, c3⟩ := hq
  have hfe' : ∀ j, j < a → (jaU σ k S k).1 67 0 (4 * id + j) = e (9 * id + 5 + j) := fun j hj => by
    rw [jaU_eq]
    exact hfe j hj
  apply js_Sc_runStep
  refine jaFor (C := fun x => ∀ u7 u8 u9 u10, jc_Sc_runStep_1 D kk k (nI p) k (nI (4 * id)) k (jvSum d e id v t x) (nI x) u7 u8 u9 u10 (jaU σ k S)) (N := jz d (t + 4)) ?_ (fun x hx ih => ?_) none none none none
  · intro u7 u8 u9 u10
    generalize hsum : jvSum d e id v t (jz d (t + 4)) = sum at *
    obtain ⟨z, hz, hz2⟩ := jvKey_n t1 hfl ha
    apply jb_Sc_runStep_1
    simp (disch := first | omega | decide) only [jaU_eq, jaU_U, nI_add, pk_mul, jaIx_nI, vp_inT, true_and, and_true, ↓jaO0, ↓jaO1, nI_z, nI_z2, nI_z3, nI_z4, nI_z5, nI_lt', nI_le', nI_eq', jaUI_at, jaPt_eq, jaPt_ne, jaUI_o, jaUI_2, jaUL_at, jaUL_o, jaUL_1, jaB_z, jaB_1, ↓jaB_01, Classical.not_not, and_self, true_or, or_true, nI_11, Nat.reduceEqDiff, Nat.reduceAdd, Nat.reduceMul, Nat.add_zero, Nat.zero_add, Nat.mul_zero, not_true_eq_false, not_false_eq_true, false_implies, true_implies, c2, c1]
    rw [t4]
    simp (disch := first | omega | decide) only [jaU_eq, jaU_U, nI_add, pk_mul, jaIx_nI, vp_inT, true_and, and_true, ↓jaO0, ↓jaO1, nI_z, nI_z2, nI_z3, nI_z4, nI_z5, nI_lt', nI_le', nI_eq', jaUI_at, jaPt_eq, jaPt_ne, jaUI_o, jaUI_2, jaUL_at, jaUL_o, jaUL_1, jaB_z, jaB_1, ↓jaB_01, Classical.not_not, and_self, true_or, or_true, nI_11, Nat.reduceEqDiff, Nat.reduceAdd, Nat.reduceMul, Nat.add_zero, Nat.zero_add, Nat.mul_zero, not_true_eq_false, not_false_eq_true, false_implies, true_implies]
    refine ⟨fun _ => ?_, fun q => absurd (by omega) q⟩
    refine sp_Sc_keyOf_r (by omega) (Or.inl rfl) hid t1 ha hK hfe' ?_
    rw [hz2] at h1 h0 ⊢
    rw [jaIx_nI (by omega)] at h1 h0
    simp (disch := first | omega | decide) only [jaU_eq, jaU_U, nI_add, pk_mul, jaIx_nI, vp_inT, true_and, and_true, ↓jaO0, ↓jaO1, nI_z, nI_z2, nI_z3, nI_z4, nI_z5, nI_lt', nI_le', nI_eq', jaUI_at, jaPt_eq, jaPt_ne, jaUI_o, jaUI_2, jaUL_at, jaUL_o, jaUL_1, jaB_z, jaB_1, ↓jaB_01, Classical.not_not, and_self, true_or, or_true, nI_11, Nat.reduceEqDiff, Nat.reduceAdd, Nat.reduceMul, Nat.add_zero, Nat.zero_add, Nat.mul_zero, not_true_eq_false, not_false_eq_true, false_implies, true_implies]
    refine ⟨fun _ => ?_, fun q => absurd q (by omega)⟩
    rcases t0 with t0 | t0
    · rw [jaIf1_f (by rw [t0]; decide)] at c0
      rw [c0]
      refine ⟨fun _ => ?_, fun q => absurd q (by decide), fun q => absurd q (by decide), fun q => absurd q (by decide)⟩
      exact h0 t0
    · rw [jaIf1_t t0] at c0
      rw [c0]
      have h1 := h1 t0
      rw [hv z hz]
      rcases (show jz d (t + 3) = 60 ∨ jz d (t + 3) = 61 ∨ jz d (t + 3) = 62 by omega) with g | g | g
      · rw [t3.1, g] at h1 ⊢
        refine ⟨fun q => absurd q (by decide), fun _ => ⟨fun q => ?_, fun q => ?_⟩, fun q => absurd q (by decide), fun q => absurd q (by decide)⟩
        · apply jb_Sc_runStep_13
          rw [jaB_f (show ¬ jvOk (nI 60) (v z) sum from fun x => x.elim (fun y => y.2 q) (fun y => y.elim (fun z => absurd z.1 (by decide)) (fun z => z.1 rfl)))] at h1
          exact ⟨Or.inl rfl, h1⟩
        · apply jb_Sc_runStep_13
          rw [jaB_t (show jvOk (nI 60) (v z) sum from Or.inl ⟨rfl, q⟩)] at h1
          exact ⟨Or.inr rfl, h1⟩
      · rw [t3.1, g] at h1 ⊢
        refine ⟨fun q => absurd q (by decide), fun q => absurd q (by decide), fun _ => ⟨fun q => ?_, fun q => ?_⟩, fun q => absurd q (by decide)⟩
        · apply jb_Sc_runStep_16
          rw [jaB_f (show ¬ jvOk (nI 61) (v z) sum from fun x => x.elim (fun y => absurd y.1 (by decide)) (fun y => y.elim (fun z => q z.2) (fun z => z.2.1 rfl)))] at h1
          exact ⟨Or.inl rfl, h1⟩
        · apply jb_Sc_runStep_16
          rw [jaB_t (show jvOk (nI 61) (v z) sum from Or.inr (Or.inl ⟨rfl, q⟩))] at h1
          exact ⟨Or.inr rfl, h1⟩
      · rw [t3.1, g] at h1 ⊢
        refine ⟨fun q => absurd q (by decide), fun q => absurd q (by decide), fun q => absurd q (by decide), fun _ => ⟨fun q => ?_, fun q => ?_⟩⟩
        · apply jb_Sc_runStep_19
          rw [jaB_f (show ¬ jvOk (nI 62) (v z) sum from fun x => x.elim (fun y => absurd y.1 (by decide)) (fun y => y.elim (fun z => absurd z.1 (by decide)) (fun z => absurd z.2.2 (Int32.not_lt.mpr q))))] at h1
          exact ⟨Or.inl rfl, h1⟩
        · apply jb_Sc_runStep_19
          rw [jaB_t (show jvOk (nI 62) (v z) sum from Or.inr (Or.inr ⟨by decide, by decide, Int32.not_le.mp q⟩))] at h1
          exact ⟨Or.inr rfl, h1⟩
  · intro u7 u8 u9 u10
    have hu := t5 x hx
    have hc := c3 x hx
    have hst : jvSum d e id v t (x + 1) = jvSum d e id v t x + jvTm d e id v (t + 5 + 4 * x) := rfl
    rw [hst] at ih
    unfold jvTm at ih
    generalize t + 5 + 4 * x = u at *
    -- behind the key: the number, with its sign
    have L5 : ∀ (c N : Int32) (x8 x9 : Int32) u10, c = jcTm d u → N = jaIf1 (d u = 0) (d (u + 1)) (v (jaIx (jvKey d e id (u + 1)))) → jc_Sc_runStep_5 D kk k (nI p) k (nI (4 * id)) k (jvSum d e id v t x) (nI x) c x8 x9 u10 N (jaU σ k S) := by
      intro c N x8 x9 u10 hc hN
      rw [← hN] at ih
      apply jb_Sc_runStep_5
      have hpl : jcPl d u < 3000 := by
        unfold jcPl
        rcases hu.1 with z | z
        · rw [jaIf1_t (by rw [z.1]; decide)]
          omega
        · rw [jaIf1_f (by rw [z.1]; decide)]
          exact jcPl_lt z.2 ha hK
      unfold jcTm at hc
      refine ⟨fun q => ?_, fun q => ?_⟩
      · apply jb_Sc_runStep_7
        have hn : ¬ d (u + 3) = nI 1 := fun z => by
          rw [jaIf1_t z] at hc
          rw [hc] at q
          exact jaM1n (by omega) q
        rw [jaIf1_f hn] at ih
        rw [nI_add]
        exact ih _ _ _ _
      · apply jb_Sc_runStep_7
        have hn : d (u + 3) = nI 1 := Classical.byContradiction fun z => by
          rw [jaIf1_f z] at hc
          rw [hc] at q
          exact q (nI_pos' (by omega))
        rw [jaIf1_t hn] at ih
        rw [nI_add]
        exact ih _ _ _ _
    have L3 : ∀ (c y : Int32) u8 u9 u10, c = jcTm d u → y = nI (jcPl d u) → jc_Sc_runStep_3 D kk k (nI p) k (nI (4 * id)) k (jvSum d e id v t x) (nI x) c u8 u9 u10 y (jaU σ k S) := by
      intro c y u8 u9 u10 hc hy
      apply jb_Sc_runStep_3
      refine sp_Sc_keyOf_t (by omega) (Or.inl hy) hid hu ha hK hfe' (fun q1 q2 => ?_) (fun q1 => ?_)
      · refine ⟨fun _ => ?_, fun q => absurd (by decide) q⟩
        apply jb_Sc_runStep_4
        refine L5 _ _ _ _ _ hc ?_
        have q0 : d u = 0 := by rw [q1]; decide
        rw [jaIf1_t q0, hy]
        unfold jcPl
        rw [jaIf1_t q0]
        rcases hu.1 with z | z
        · exact z.2.1.symm
        · rw [q1] at z
          exact absurd z.1 (by decide)
      · have hf2 : jWf K a d (u + 1) := by
          rcases hu.1 with z | z
          · rw [q1] at z
            exact absurd z.1 (by decide)
          · exact z.2
        obtain ⟨w, hw, hw2⟩ := jvKey_n hf2 hfl ha
        have z1 := L5 c (v (jaIx (jvKey d e id (u + 1)))) y (nI w) u10 hc (jaIf1_f (by rw [q1]; decide)).symm
        rw [hw2, jaIx_nI (by omega)] at z1
        rw [hw2]
        simp (disch := first | omega | decide) only [jaU_eq, jaU_U, nI_add, pk_mul, jaIx_nI, vp_inT, true_and, and_true, ↓jaO0, ↓jaO1, nI_z, nI_z2, nI_z3, nI_z4, nI_z5, nI_lt', nI_le', nI_eq', jaUI_at, jaPt_eq, jaPt_ne, jaUI_o, jaUI_2, jaUL_at, jaUL_o, jaUL_1, jaB_z, jaB_1, ↓jaB_01, Classical.not_not, and_self, true_or, or_true, nI_11, Nat.reduceEqDiff, Nat.reduceAdd, Nat.reduceMul, Nat.add_zero, Nat.zero_add, Nat.mul_zero, not_true_eq_false, not_false_eq_true, false_implies, true_implies]
        refine ⟨fun q => absurd q (by omega), fun _ => ?_⟩
        rw [hv w hw]
        exact z1
    apply jb_Sc_runStep_1
    simp (disch := first | omega | decide) only [jaU_eq, jaU_U, nI_add, pk_mul, jaIx_nI, vp_inT, true_and, and_true, ↓jaO0, ↓jaO1, nI_z, nI_z2, nI_z3, nI_z4, nI_z5, nI_lt', nI_le', nI_eq', jaUI_at, jaPt_eq, jaPt_ne, jaUI_o, jaUI_2, jaUL_at, jaUL_o, jaUL_1, jaB_z, jaB_1, ↓jaB_01, Classical.not_not, and_self, true_or, or_true, nI_11, Nat.reduceEqDiff, Nat.reduceAdd, Nat.reduceMul, Nat.add_zero, Nat.zero_add, Nat.mul_zero, not_true_eq_false, not_false_eq_true, false_implies, true_implies, c2, hc]
    rw [t4]
    simp (disch := first | omega | decide) only [jaU_eq, jaU_U, nI_add, pk_mul, jaIx_nI, vp_inT, true_and, and_true, ↓jaO0, ↓jaO1, nI_z, nI_z2, nI_z3, nI_z4, nI_z5, nI_lt', nI_le', nI_eq', jaUI_at, jaPt_eq, jaPt_ne, jaUI_o, jaUI_2, jaUL_at, jaUL_o, jaUL_1, jaB_z, jaB_1, ↓jaB_01, Classical.not_not, and_self, true_or, or_true, nI_11, Nat.reduceEqDiff, Nat.reduceAdd, Nat.reduceMul, Nat.add_zero, Nat.zero_add, Nat.mul_zero, not_true_eq_false, not_false_eq_true, false_implies, true_implies]
    refine ⟨fun q => absurd q (by omega), fun _ => ?_⟩
    refine ⟨fun q => L3 _ _ _ _ _ rfl ?_, fun q => L3 _ _ _ _ _ rfl ?_⟩
    · rcases jcTm_or d u with z | z
      · exact z
      · rw [z] at q
        have hpl : jcPl d u < 3000 := by
          unfold jcPl
          rcases hu.1 with z | z
          · rw [jaIf1_t (by rw [z.1]; decide)]
            omega
          · rw [jaIf1_f (by rw [z.1]; decide)]
            exact jcPl_lt z.2 ha hK
        exact absurd q (jaM1n (by omega))
    · rcases jcTm_or d u with z | z
      · rw [z] at q
        have hpl : jcPl d u < 3000 := by
          unfold jcPl
          rcases hu.1 with z | z
          · rw [jaIf1_t (by rw [z.1]; decide)]
            omega
          · rw [jaIf1_f (by rw [z.1]; decide)]
            exact jcPl_lt z.2 ha hK
        exact absurd (nI_pos' (by omega)) q
      · rw [z, jaM1]
set_option maxHeartbeats 2000000 in
theorem sp_Sc_run_51 {D : Nat} (hD : 3 ≤ D) {kk : Int32 → jaT → Prop} {σ : jaT} {S : jaS} {d e R : jvA} {k n id K : Nat} {c : Nat}  (hR : jRt S d n) (hn : n < 24) (hw : jWn K d n) (hK : K ≤ 10) (hid : id < 64) (hen : e (9 * id) = nI n) (hfe : ∀ j, j < jz d (133 * n + 2) → S.1 67 0 (4 * id + j) = e (9 * id + 5 + j)) (hfl : ∀ j, j < jz d (133 * n + 2) → e (9 * id + 5 + j) = nI (jz e (9 * id + 5 + j)) ∧ jz e (9 * id + 5 + j) < K)
    (hrow : ∀ q, q < K → S.1 51 c q = R q) (h : ∀ S', jcF [42] S S' → (∀ v w, jvGo R d e (nI K) id = (nI 2, v, w) → ∀ q, q < K → S'.1 42 0 q = v q) → kk (jvGo R d e (nI K) id).1 (jaU σ k S')) :
    jaDe D jy_Sc_run [jcSc k, .inl (nI n), .inr (.inr (67, k, 0)), .inl (nI (4 * id)), .inr (.inr (51, k, c)), .inr (.inr (42, k, 0)), .inl (nI K)] (jaU σ k S) (jaKi kk) := by
  obtain ⟨D, rfl, hD⟩ := jaSuc hD
  have hw' := hw
  obtain ⟨hk1, hd0, ⟨hd1, hd1'⟩, ⟨hd2, hd2'⟩, hda, hds⟩ := hw
  obtain ⟨r0, r1, r2, r3, r4⟩ := hR
  have hgo : jvGo R d e (nI K) id = jaIf1 (jvAg R d e (nI K) id (133 * n) (jz d (133 * n + 2))) (nI 3, R, nI 0) (match jvSts d e id (133 * n) (jz d (133 * n + 1)) 0 R (nI 0) with
    | some (v, w) => (nI 2, v, w)
    | none => (nI 4, R, nI 0)) := by
    unfold jvGo
    rw [show jz e (9 * id) = n by rw [jz, hen, jaIx_nI (by omega)]]
    rfl
  rw [hgo] at h
  apply js_Sc_run_51
  have L6 : ∀ m i v w S', i + m = jz d (133 * n + 1) → jcF [42] S S' → (∀ q, q < K → S'.1 42 0 q = v q) →
      (∀ S'', jcF [42] S S'' → (∀ v' w', jvSts d e id (133 * n) m i v w = some (v', w') → (∀ q, q < K → S''.1 42 0 q = v' q) → kk (nI 2) (jaU σ k S'')) ∧ (jvSts d e id (133 * n) m i v w = none → kk (nI 4) (jaU σ k S''))) →
      jc_Sc_run_51_6 D kk k (nI n) k (nI (4 * id)) k c k (nI K) (nI i) (jaU σ k S') := by
    intro m
    induction m with
    | zero =>
      intro i v w S' him f hv hp
      apply jb_Sc_run_51_6
      simp (disch := first | omega | decide) only [jaU_eq, jaU_U, nI_add, pk_mul, jaIx_nI, vp_inT, true_and, and_true, ↓jaO0, ↓jaO1, nI_z, nI_z2, nI_z3, nI_z4, nI_z5, nI_lt', nI_le', nI_eq', jaUI_at, jaPt_eq, jaPt_ne, jaUI_o, jaUI_2, jaUL_at, jaUL_o, jaUL_1, jaB_z, jaB_1, ↓jaB_01, Classical.not_not, and_self, true_or, or_true, nI_11, Nat.reduceEqDiff, Nat.reduceAdd, Nat.reduceMul, Nat.add_zero, Nat.zero_add, Nat.mul_zero, not_true_eq_false, not_false_eq_true, false_implies, true_implies, f.s 56 (by decide), r1]
      rw [hd1]
      simp (disch := first | omega | decide) only [jaU_eq, jaU_U, nI_add, pk_mul, jaIx_nI, vp_inT, true_and, and_true, ↓jaO0, ↓jaO1, nI_z, nI_z2, nI_z3, nI_z4, nI_z5, nI_lt', nI_le', nI_eq', jaUI_at, jaPt_eq, jaPt_ne, jaUI_o, jaUI_2, jaUL_at, jaUL_o, jaUL_1, jaB_z, jaB_1, ↓jaB_01, Classical.not_not, and_self, true_or, or_true, nI_11, Nat.reduceEqDiff, Nat.reduceAdd, Nat.reduceMul, Nat.add_zero, Nat.zero_add, Nat.mul_zero, not_true_eq_false, not_false_eq_true, false_implies, true_implies]
      refine ⟨fun _ => ?_, fun q => absurd (by omega) q⟩
      exact (hp S' f).1 v w rfl hv
    | succ m ih =>
      intro i v w S' him f hv hp
      have hs := r4 i (by omega)
      have ht := hds i (by omega)
      obtain ⟨z, hz, hz2⟩ := jvKey_n ht.2.1 hfl hd2'
      rw [jvSts_s, hz2, jaIx_nI (by omega)] at hp
      apply jb_Sc_run_51_6
      simp (disch := first | omega | decide) only [jaU_eq, jaU_U, nI_add, pk_mul, jaIx_nI, vp_inT, true_and, and_true, ↓jaO0, ↓jaO1, nI_z, nI_z2, nI_z3, nI_z4, nI_z5, nI_lt', nI_le', nI_eq', jaUI_at, jaPt_eq, jaPt_ne, jaUI_o, jaUI_2, jaUL_at, jaUL_o, jaUL_1, jaB_z, jaB_1, ↓jaB_01, Classical.not_not, and_self, true_or, or_true, nI_11, Nat.reduceEqDiff, Nat.reduceAdd, Nat.reduceMul, Nat.add_zero, Nat.zero_add, Nat.mul_zero, not_true_eq_false, not_false_eq_true, false_implies, true_implies, f.s 56 (by decide), r1, jcIx]
      rw [hd1]
      simp (disch := first | omega | decide) only [jaU_eq, jaU_U, nI_add, pk_mul, jaIx_nI, vp_inT, true_and, and_true, ↓jaO0, ↓jaO1, nI_z, nI_z2, nI_z3, nI_z4, nI_z5, nI_lt', nI_le', nI_eq', jaUI_at, jaPt_eq, jaPt_ne, jaUI_o, jaUI_2, jaUL_at, jaUL_o, jaUL_1, jaB_z, jaB_1, ↓jaB_01, Classical.not_not, and_self, true_or, or_true, nI_11, Nat.reduceEqDiff, Nat.reduceAdd, Nat.reduceMul, Nat.add_zero, Nat.zero_add, Nat.mul_zero, not_true_eq_false, not_false_eq_true, false_implies, true_implies]
      refine ⟨fun q => absurd q (by omega), fun _ => ?_⟩
      refine sp_Sc_runStep (t := 133 * n + 7 + 21 * i) (v := v) (a := jz d (133 * n + 2)) (by omega) (by rw [f.s 59 (by decide)]; exact hs) (by omega) ht hd2' hK hid (by rw [f.s 67 (by decide)]; exact hfe) hfl hv (fun q1 => ?_) (fun q1 => ?_)
      · rw [jaIf1_t q1] at hp
        rw [hz2, jaIx_nI (by omega)]
        simp (disch := first | omega | decide) only [jaU_eq, jaU_U, nI_add, pk_mul, jaIx_nI, vp_inT, true_and, and_true, ↓jaO0, ↓jaO1, nI_z, nI_z2, nI_z3, nI_z4, nI_z5, nI_lt', nI_le', nI_eq', jaUI_at, jaPt_eq, jaPt_ne, jaUI_o, jaUI_2, jaUL_at, jaUL_o, jaUL_1, jaB_z, jaB_1, ↓jaB_01, Classical.not_not, and_self, true_or, or_true, nI_11, Nat.reduceEqDiff, Nat.reduceAdd, Nat.reduceMul, Nat.add_zero, Nat.zero_add, Nat.mul_zero, not_true_eq_false, not_false_eq_true, false_implies, true_implies]
        refine ⟨fun q2 => ?_, fun q2 => ?_⟩
        · rw [jaIf1_t q2] at hp
          exact ih (i + 1) v w S' (by omega) f hv hp
        · rw [jaIf1_f q2] at hp
          exact (hp S' f).2 rfl
      · rw [jaIf1_f (by rw [q1]; decide)] at hp
        rw [hz2, jaIx_nI (by omega)]
        simp (disch := first | omega | decide) only [jaU_eq, jaU_U, nI_add, pk_mul, jaIx_nI, vp_inT, true_and, and_true, ↓jaO0, ↓jaO1, nI_z, nI_z2, nI_z3, nI_z4, nI_z5, nI_lt', nI_le', nI_eq', jaUI_at, jaPt_eq, jaPt_ne, jaUI_o, jaUI_2, jaUL_at, jaUL_o, jaUL_1, jaB_z, jaB_1, ↓jaB_01, Classical.not_not, and_self, true_or, or_true, nI_11, Nat.reduceEqDiff, Nat.reduceAdd, Nat.reduceMul, Nat.add_zero, Nat.zero_add, Nat.mul_zero, not_true_eq_false, not_false_eq_true, false_implies, true_implies]
        refine ih (i + 1) _ _ _ (by omega) (f.ui (by decide)) (fun q hq => ?_) hp
        simp (disch := first | omega | decide) only [jaU_eq, jaU_U, nI_add, pk_mul, jaIx_nI, vp_inT, true_and, and_true, ↓jaO0, ↓jaO1, nI_z, nI_z2, nI_z3, nI_z4, nI_z5, nI_lt', nI_le', nI_eq', jaUI_at, jaPt_eq, jaPt_ne, jaUI_o, jaUI_2, jaUL_at, jaUL_o, jaUL_1, jaB_z, jaB_1, ↓jaB_01, Classical.not_not, and_self, true_or, or_true, nI_11, Nat.reduceEqDiff, Nat.reduceAdd, Nat.reduceMul, Nat.add_zero, Nat.zero_add, Nat.mul_zero, not_true_eq_false, not_false_eq_true, false_implies, true_implies]
        by_cases e1 : q = z
        · rw [e1, jaPt_eq, jaPt_eq]
        · rw [jaPt_ne e1, jaPt_ne e1]
          exact hv q hq
  refine jaFor (C := fun j => (∀ i, i < j → jvMod (R (jz d (133 * n + 3 + i))) (nI K) = e (9 * id + 5 + i)) → jc_Sc_run_51_1 D kk k (nI n) k (nI (4 * id)) k c k (nI K) (nI j) (jaU σ k S)) (N := jz d (133 * n + 2)) ?_ (fun j hj ih => ?_) (fun i hi => absurd hi (by omega))
  · intro hall
    have hna : ¬ jvAg R d e (nI K) id (133 * n) (jz d (133 * n + 2)) := fun ⟨i, hi, hi2⟩ => hi2 (hall i hi)
    rw [jaIf1_f hna] at h
    apply jb_Sc_run_51_1
    simp (disch := first | omega | decide) only [jaU_eq, jaU_U, nI_add, pk_mul, jaIx_nI, vp_inT, true_and, and_true, ↓jaO0, ↓jaO1, nI_z, nI_z2, nI_z3, nI_z4, nI_z5, nI_lt', nI_le', nI_eq', jaUI_at, jaPt_eq, jaPt_ne, jaUI_o, jaUI_2, jaUL_at, jaUL_o, jaUL_1, jaB_z, jaB_1, ↓jaB_01, Classical.not_not, and_self, true_or, or_true, nI_11, Nat.reduceEqDiff, Nat.reduceAdd, Nat.reduceMul, Nat.add_zero, Nat.zero_add, Nat.mul_zero, not_true_eq_false, not_false_eq_true, false_implies, true_implies, r2]
    rw [hd2]
    simp (disch := first | omega | decide) only [jaU_eq, jaU_U, nI_add, pk_mul, jaIx_nI, vp_inT, true_and, and_true, ↓jaO0, ↓jaO1, nI_z, nI_z2, nI_z3, nI_z4, nI_z5, nI_lt', nI_le', nI_eq', jaUI_at, jaPt_eq, jaPt_ne, jaUI_o, jaUI_2, jaUL_at, jaUL_o, jaUL_1, jaB_z, jaB_1, ↓jaB_01, Classical.not_not, and_self, true_or, or_true, nI_11, Nat.reduceEqDiff, Nat.reduceAdd, Nat.reduceMul, Nat.add_zero, Nat.zero_add, Nat.mul_zero, not_true_eq_false, not_false_eq_true, false_implies, true_implies]
    refine ⟨fun _ => ?_, fun q => absurd (by omega) q⟩
    refine jaFor (C := fun q0 => ∀ S', jcF [42] S S' → (∀ q, q < q0 → S'.1 42 0 q = R q) → jc_Sc_run_51_4 D kk k (nI n) k (nI (4 * id)) k c k (nI K) (nI q0) (jaU σ k S')) (N := K) ?_ (fun q0 hq0 ih => ?_) S jcF.rfl (fun q hq => absurd hq (by omega))
    · intro S' f hv
      apply jb_Sc_run_51_4
      simp (disch := first | omega | decide) only [jaU_eq, jaU_U, nI_add, pk_mul, jaIx_nI, vp_inT, true_and, and_true, ↓jaO0, ↓jaO1, nI_z, nI_z2, nI_z3, nI_z4, nI_z5, nI_lt', nI_le', nI_eq', jaUI_at, jaPt_eq, jaPt_ne, jaUI_o, jaUI_2, jaUL_at, jaUL_o, jaUL_1, jaB_z, jaB_1, ↓jaB_01, Classical.not_not, and_self, true_or, or_true, nI_11, Nat.reduceEqDiff, Nat.reduceAdd, Nat.reduceMul, Nat.add_zero, Nat.zero_add, Nat.mul_zero, not_true_eq_false, not_false_eq_true, false_implies, true_implies]
      refine ⟨fun _ => ?_, fun q => absurd (by omega) q⟩
      refine L6 _ 0 R (nI 0) S' (Nat.zero_add _) f hv (fun S'' f'' => ⟨fun v' w' hq hp => ?_, fun hq => ?_⟩)
      · rw [hq] at h
        exact h S'' f'' (fun v w hvw => by cases hvw; exact hp)
      · rw [hq] at h
        exact h S'' f'' (fun v w hvw => absurd (congrArg Prod.fst hvw) (by show ¬ nI 4 = nI 2; decide))
    · intro S' f hv
      apply jb_Sc_run_51_4
      simp (disch := first | omega | decide) only [jaU_eq, jaU_U, nI_add, pk_mul, jaIx_nI, vp_inT, true_and, and_true, ↓jaO0, ↓jaO1, nI_z, nI_z2, nI_z3, nI_z4, nI_z5, nI_lt', nI_le', nI_eq', jaUI_at, jaPt_eq, jaPt_ne, jaUI_o, jaUI_2, jaUL_at, jaUL_o, jaUL_1, jaB_z, jaB_1, ↓jaB_01, Classical.not_not, and_self, true_or, or_true, nI_11, Nat.reduceEqDiff, Nat.reduceAdd, Nat.reduceMul, Nat.add_zero, Nat.zero_add, Nat.mul_zero, not_true_eq_false, not_false_eq_true, false_implies, true_implies]
      refine ⟨fun q => absurd q (by omega), fun _ => ?_⟩
      refine ih _ (f.ui (by decide)) (fun q hq => ?_)
      simp (disch := first | omega | decide) only [jaU_eq, jaU_U, nI_add, pk_mul, jaIx_nI, vp_inT, true_and, and_true, ↓jaO0, ↓jaO1, nI_z, nI_z2, nI_z3, nI_z4, nI_z5, nI_lt', nI_le', nI_eq', jaUI_at, jaPt_eq, jaPt_ne, jaUI_o, jaUI_2, jaUL_at, jaUL_o, jaUL_1, jaB_z, jaB_1, ↓jaB_01, Classical.not_not, and_self, true_or, or_true, nI_11, Nat.reduceEqDiff, Nat.reduceAdd, Nat.reduceMul, Nat.add_zero, Nat.zero_add, Nat.mul_zero, not_true_eq_false, not_false_eq_true, false_implies, true_implies]
      by_cases e1 : q = q0
      · rw [e1, jaPt_eq]
        rw [f.s 51 (by decide)]
        exact hrow q0 hq0
      · rw [jaPt_ne e1]
        exact hv q (by omega)
  · intro hall
    apply jb_Sc_run_51_1
    simp (disch := first | omega | decide) only [jaU_eq, jaU_U, nI_add, pk_mul, jaIx_nI, vp_inT, true_and, and_true, ↓jaO0, ↓jaO1, nI_z, nI_z2, nI_z3, nI_z4, nI_z5, nI_lt', nI_le', nI_eq', jaUI_at, jaPt_eq, jaPt_ne, jaUI_o, jaUI_2, jaUL_at, jaUL_o, jaUL_1, jaB_z, jaB_1, ↓jaB_01, Classical.not_not, and_self, true_or, or_true, nI_11, Nat.reduceEqDiff, Nat.reduceAdd, Nat.reduceMul, Nat.add_zero, Nat.zero_add, Nat.mul_zero, not_true_eq_false, not_false_eq_true, false_implies, true_implies, r2]
    rw [hd2]
    simp (disch := first | omega | decide) only [jaU_eq, jaU_U, nI_add, pk_mul, jaIx_nI, vp_inT, true_and, and_true, ↓jaO0, ↓jaO1, nI_z, nI_z2, nI_z3, nI_z4, nI_z5, nI_lt', nI_le', nI_eq', jaUI_at, jaPt_eq, jaPt_ne, jaUI_o, jaUI_2, jaUL_at, jaUL_o, jaUL_1, jaB_z, jaB_1, ↓jaB_01, Classical.not_not, and_self, true_or, or_true, nI_11, Nat.reduceEqDiff, Nat.reduceAdd, Nat.reduceMul, Nat.add_zero, Nat.zero_add, Nat.mul_zero, not_true_eq_false, not_false_eq_true, false_implies, true_implies]
    refine ⟨fun q => absurd q (by omega), fun _ => ?_⟩
    refine sp_Sc_keyAt_51 (by omega) ⟨r0, r1, r2, r3, r4⟩ hn hw' hK hj ?_
    have ha := (hda j hj).2
    simp (disch := first | omega | decide) only [jaU_eq, jaU_U, nI_add, pk_mul, jaIx_nI, vp_inT, true_and, and_true, ↓jaO0, ↓jaO1, nI_z, nI_z2, nI_z3, nI_z4, nI_z5, nI_lt', nI_le', nI_eq', jaUI_at, jaPt_eq, jaPt_ne, jaUI_o, jaUI_2, jaUL_at, jaUL_o, jaUL_1, jaB_z, jaB_1, ↓jaB_01, Classical.not_not, and_self, true_or, or_true, nI_11, Nat.reduceEqDiff, Nat.reduceAdd, Nat.reduceMul, Nat.add_zero, Nat.zero_add, Nat.mul_zero, not_true_eq_false, not_false_eq_true, false_implies, true_implies, hfe j hj]
    rw [hrow _ ha]
    refine ⟨fun q => ?_, fun q => ?_⟩
    · exact ih (fun i hi => if e1 : i = j then (by rw [e1]; exact q) else hall i (by omega))
    · have hag : jvAg R d e (nI K) id (133 * n) (jz d (133 * n + 2)) := ⟨j, hj, q⟩
      rw [jaIf1_t hag] at h
      exact h S jcF.rfl (fun v w hvw => absurd (congrArg Prod.fst hvw) (by show ¬ nI 3 = nI 2; decide))

set_option maxHeartbeats 2000000 in
theorem sp_Sc_run_43 {D : Nat} (hD : 3 ≤ D) {kk : Int32 → jaT → Prop} {σ : jaT} {S : jaS} {d e R : jvA} {k n id K : Nat}  (hR : jRt S d n) (hn : n < 24) (hw : jWn K d n) (hK : K ≤ 10) (hid : id < 64) (hen : e (9 * id) = nI n) (hfe : ∀ j, j < jz d (133 * n + 2) → S.1 67 0 (4 * id + j) = e (9 * id + 5 + j)) (hfl : ∀ j, j < jz d (133 * n + 2) → e (9 * id + 5 + j) = nI (jz e (9 * id + 5 + j)) ∧ jz e (9 * id + 5 + j) < K)
    (hrow : ∀ q, q < K → S.1 43 0 q = R q) (h : ∀ S', jcF [42] S S' → (∀ v w, jvGo R d e (nI K) id = (nI 2, v, w) → ∀ q, q < K → S'.1 42 0 q = v q) → kk (jvGo R d e (nI K) id).1 (jaU σ k S')) :
    jaDe D jy_Sc_run [jcSc k, .inl (nI n), .inr (.inr (67, k, 0)), .inl (nI (4 * id)), .inr (.inr (43, k, 0)), .inr (.inr (42, k, 0)), .inl (nI K)] (jaU σ k S) (jaKi kk) := by
  obtain ⟨D, rfl, hD⟩ := jaSuc hD
  have hw' := hw
  obtain ⟨hk1, hd0, ⟨hd1, hd1'⟩, ⟨hd2, hd2'⟩, hda, hds⟩ := hw
  obtain ⟨r0, r1, r2, r3, r4⟩ := hR
  have hgo : jvGo R d e (nI K) id = jaIf1 (jvAg R d e (nI K) id (133 * n) (jz d (133 * n + 2))) (nI 3, R, nI 0) (match jvSts d e id (133 * n) (jz d (133 * n + 1)) 0 R (nI 0) with
    | some (v, w) => (nI 2, v, w)
    | none => (nI 4, R, nI 0)) := by
    unfold jvGo
    rw [show jz e (9 * id) = n by rw [jz, hen, jaIx_nI (by omega)]]
    rfl
  rw [hgo] at h
  apply js_Sc_run_43
  have L6 : ∀ m i v w S', i + m = jz d (133 * n + 1) → jcF [42] S S' → (∀ q, q < K → S'.1 42 0 q = v q) →
      (∀ S'', jcF [42] S S'' → (∀ v' w', jvSts d e id (133 * n) m i v w = some (v', w') → (∀ q, q < K → S''.1 42 0 q = v' q) → kk (nI 2) (jaU σ k S'')) ∧ (jvSts d e id (133 * n) m i v w = none → kk (nI 4) (jaU σ k S''))) →
      jc_Sc_run_43_6 D kk k (nI n) k (nI (4 * id)) k k (nI K) (nI i) (jaU σ k S') := by
    intro m
    induction m with
    | zero =>
      intro i v w S' him f hv hp
      apply jb_Sc_run_43_6
      simp (disch := first | omega | decide) only [jaU_eq, jaU_U, nI_add, pk_mul, jaIx_nI, vp_inT, true_and, and_true, ↓jaO0, ↓jaO1, nI_z, nI_z2, nI_z3, nI_z4, nI_z5, nI_lt', nI_le', nI_eq', jaUI_at, jaPt_eq, jaPt_ne, jaUI_o, jaUI_2, jaUL_at, jaUL_o, jaUL_1, jaB_z, jaB_1, ↓jaB_01, Classical.not_not, and_self, true_or, or_true, nI_11, Nat.reduceEqDiff, Nat.reduceAdd, Nat.reduceMul, Nat.add_zero, Nat.zero_add, Nat.mul_zero, not_true_eq_false, not_false_eq_true, false_implies, true_implies, f.s 56 (by decide), r1]
      rw [hd1]
      simp (disch := first | omega | decide) only [jaU_eq, jaU_U, nI_add, pk_mul, jaIx_nI, vp_inT, true_and, and_true, ↓jaO0, ↓jaO1, nI_z, nI_z2, nI_z3, nI_z4, nI_z5, nI_lt', nI_le', nI_eq', jaUI_at, jaPt_eq, jaPt_ne, jaUI_o, jaUI_2, jaUL_at, jaUL_o, jaUL_1, jaB_z, jaB_1, ↓jaB_01, Classical.not_not, and_self, true_or, or_true, nI_11, Nat.reduceEqDiff, Nat.reduceAdd, Nat.reduceMul, Nat.add_zero, Nat.zero_add, Nat.mul_zero, not_true_eq_false, not_false_eq_true, false_implies, true_implies]
      refine ⟨fun _ => ?_, fun q => absurd (by omega) q⟩
      exact (hp S' f).1 v w rfl hv
    | succ m ih =>
      intro i v w S' him f hv hp
      have hs := r4 i (by omega)
      have ht := hds i (by omega)
      obtain ⟨z, hz, hz2⟩ := jvKey_n ht.2.1 hfl hd2'
      rw [jvSts_s, hz2, jaIx_nI (by omega)] at hp
      apply jb_Sc_run_43_6
      simp (disch := first | omega | decide) only [jaU_eq, jaU_U, nI_add, pk_mul, jaIx_nI, vp_inT, true_and, and_true, ↓jaO0, ↓jaO1, nI_z, nI_z2, nI_z3, nI_z4, nI_z5, nI_lt', nI_le', nI_eq', jaUI_at, jaPt_eq, jaPt_ne, jaUI_o, jaUI_2, jaUL_at, jaUL_o, jaUL_1, jaB_z, jaB_1, ↓jaB_01, Classical.not_not, and_self, true_or, or_true, nI_11, Nat.reduceEqDiff, Nat.reduceAdd, Nat.reduceMul, Nat.add_zero, Nat.zero_add, Nat.mul_zero, not_true_eq_false, not_false_eq_true, false_implies, true_implies, f.s 56 (by decide), r1, jcIx]
      rw [hd1]
      simp (disch := first | omega | decide) only [jaU_eq, jaU_U, nI_add, pk_mul, jaIx_nI, vp_inT, true_and, and_true, ↓jaO0, ↓jaO1, nI_z, nI_z2, nI_z3, nI_z4, nI_z5, nI_lt', nI_le', nI_eq', jaUI_at, jaPt_eq, jaPt_ne, jaUI_o, jaUI_2, jaUL_at, jaUL_o, jaUL_1, jaB_z, jaB_1, ↓jaB_01, Classical.not_not, and_self, true_or, or_true, nI_11, Nat.reduceEqDiff, Nat.reduceAdd, Nat.reduceMul, Nat.add_zero, Nat.zero_add, Nat.mul_zero, not_true_eq_false, not_false_eq_true, false_implies, true_implies]
      refine ⟨fun q => absurd q (by omega), fun _ => ?_⟩
      refine sp_Sc_runStep (t := 133 * n + 7 + 21 * i) (v := v) (a := jz d (133 * n + 2)) (by omega) (by rw [f.s 59 (by decide)]; exact hs) (by omega) ht hd2' hK hid (by rw [f.s 67 (by decide)]; exact hfe) hfl hv (fun q1 => ?_) (fun q1 => ?_)
      · rw [jaIf1_t q1] at hp
        rw [hz2, jaIx_nI (by omega)]
        simp (disch := first | omega | decide) only [jaU_eq, jaU_U, nI_add, pk_mul, jaIx_nI, vp_inT, true_and, and_true, ↓jaO0, ↓jaO1, nI_z, nI_z2, nI_z3, nI_z4, nI_z5, nI_lt', nI_le', nI_eq', jaUI_at, jaPt_eq, jaPt_ne, jaUI_o, jaUI_2, jaUL_at, jaUL_o, jaUL_1, jaB_z, jaB_1, ↓jaB_01, Classical.not_not, and_self, true_or, or_true, nI_11, Nat.reduceEqDiff, Nat.reduceAdd, Nat.reduceMul, Nat.add_zero, Nat.zero_add, Nat.mul_zero, not_true_eq_false, not_false_eq_true, false_implies, true_implies]
        refine ⟨fun q2 => ?_, fun q2 => ?_⟩
        · rw [jaIf1_t q2] at hp
          exact ih (i + 1) v w S' (by omega) f hv hp
        · rw [jaIf1_f q2] at hp
          exact (hp S' f).2 rfl
      · rw [jaIf1_f (by rw [q1]; decide)] at hp
        rw [hz2, jaIx_nI (by omega)]
        simp (disch := first | omega | decide) only [jaU_eq, jaU_U, nI_add, pk_mul, jaIx_nI, vp_inT, true_and, and_true, ↓jaO0, ↓jaO1, nI_z, nI_z2, nI_z3, nI_z4, nI_z5, nI_lt', nI_le', nI_eq', jaUI_at, jaPt_eq, jaPt_ne, jaUI_o, jaUI_2, jaUL_at, jaUL_o, jaUL_1, jaB_z, jaB_1, ↓jaB_01, Classical.not_not, and_self, true_or, or_true, nI_11, Nat.reduceEqDiff, Nat.reduceAdd, Nat.reduceMul, Nat.add_zero, Nat.zero_add, Nat.mul_zero, not_true_eq_false, not_false_eq_true, false_implies, true_implies]
        refine ih (i + 1) _ _ _ (by omega) (f.ui (by decide)) (fun q hq => ?_) hp
        simp (disch := first | omega | decide) only [jaU_eq, jaU_U, nI_add, pk_mul, jaIx_nI, vp_inT, true_and, and_true, ↓jaO0, ↓jaO1, nI_z, nI_z2, nI_z3, nI_z4, nI_z5, nI_lt', nI_le', nI_eq', jaUI_at, jaPt_eq, jaPt_ne, jaUI_o, jaUI_2, jaUL_at, jaUL_o, jaUL_1, jaB_z, jaB_1, ↓jaB_01, Classical.not_not, and_self, true_or, or_true, nI_11, Nat.reduceEqDiff, Nat.reduceAdd, Nat.reduceMul, Nat.add_zero, Nat.zero_add, Nat.mul_zero, not_true_eq_false, not_false_eq_true, false_implies, true_implies]
        by_cases e1 : q = z
        · rw [e1, jaPt_eq, jaPt_eq]
        · rw [jaPt_ne e1, jaPt_ne e1]
          exact hv q hq
  refine jaFor (C := fun j => (∀ i, i < j → jvMod (R (jz d (133 * n + 3 + i))) (nI K) = e (9 * id + 5 + i)) → jc_Sc_run_43_1 D kk k (nI n) k (nI (4 * id)) k k (nI K) (nI j) (jaU σ k S)) (N := jz d (133 * n + 2)) ?_ (fun j hj ih => ?_) (fun i hi => absurd hi (by omega))
  · intro hall
    have hna : ¬ jvAg R d e (nI K) id (133 * n) (jz d (133 * n + 2)) := fun ⟨i, hi, hi2⟩ => hi2 (hall i hi)
    rw [jaIf1_f hna] at h
    apply jb_Sc_run_43_1
    simp (disch := first | omega | decide) only [jaU_eq, jaU_U, nI_add, pk_mul, jaIx_nI, vp_inT, true_and, and_true, ↓jaO0, ↓jaO1, nI_z, nI_z2, nI_z3, nI_z4, nI_z5, nI_lt', nI_le', nI_eq', jaUI_at, jaPt_eq, jaPt_ne, jaUI_o, jaUI_2, jaUL_at, jaUL_o, jaUL_1, jaB_z, jaB_1, ↓jaB_01, Classical.not_not, and_self, true_or, or_true, nI_11, Nat.reduceEqDiff, Nat.reduceAdd, Nat.reduceMul, Nat.add_zero, Nat.zero_add, Nat.mul_zero, not_true_eq_false, not_false_eq_true, false_implies, true_implies, r2]
    rw [hd2]
    simp (disch := first | omega | decide) only [jaU_eq, jaU_U, nI_add, pk_mul, jaIx_nI, vp_inT, true_and, and_true, ↓jaO0, ↓jaO1, nI_z, nI_z2, nI_z3, nI_z4, nI_z5, nI_lt', nI_le', nI_eq', jaUI_at, jaPt_eq, jaPt_ne, jaUI_o, jaUI_2, jaUL_at, jaUL_o, jaUL_1, jaB_z, jaB_1, ↓jaB_01, Classical.not_not, and_self, true_or, or_true, nI_11, Nat.reduceEqDiff, Nat.reduceAdd, Nat.reduceMul, Nat.add_zero, Nat.zero_add, Nat.mul_zero, not_true_eq_false, not_false_eq_true, false_implies, true_implies]
    refine ⟨fun _ => ?_, fun q => absurd (by omega) q⟩
    refine jaFor (C := fun q0 => ∀ S', jcF [42] S S' → (∀ q, q < q0 → S'.1 42 0 q = R q) → jc_Sc_run_43_4 D kk k (nI n) k (nI (4 * id)) k k (nI K) (nI q0) (jaU σ k S')) (N := K) ?_ (fun q0 hq0 ih => ?_) S jcF.rfl (fun q hq => absurd hq (by omega))
    · intro S' f hv
      apply jb_Sc_run_43_4
      simp (disch := first | omega | decide) only [jaU_eq, jaU_U, nI_add, pk_mul, jaIx_nI, vp_inT, true_and, and_true, ↓jaO0, ↓jaO1, nI_z, nI_z2, nI_z3, nI_z4, nI_z5, nI_lt', nI_le', nI_eq', jaUI_at, jaPt_eq, jaPt_ne, jaUI_o, jaUI_2, jaUL_at, jaUL_o, jaUL_1, jaB_z, jaB_1, ↓jaB_01, Classical.not_not, and_self, true_or, or_true, nI_11, Nat.reduceEqDiff, Nat.reduceAdd, Nat.reduceMul, Nat.add_zero, Nat.zero_add, Nat.mul_zero, not_true_eq_false, not_false_eq_true, false_implies, true_implies]
      refine ⟨fun _ => ?_, fun q => absurd (by omega) q⟩
      refine L6 _ 0 R (nI 0) S' (Nat.zero_add _) f hv (fun S'' f'' => ⟨fun v' w' hq hp => ?_, fun hq => ?_⟩)
      · rw [hq] at h
        exact h S'' f'' (fun v w hvw => by cases hvw; exact hp)
      · rw [hq] at h
        exact h S'' f'' (fun v w hvw => absurd (congrArg Prod.fst hvw) (by show ¬ nI 4 = nI 2; decide))
    · intro S' f hv
      apply jb_Sc_run_43_4
      simp (disch := first | omega | decide) only [jaU_eq, jaU_U, nI_add, pk_mul, jaIx_nI, vp_inT, true_and, and_true, ↓jaO0, ↓jaO1, nI_z, nI_z2, nI_z3, nI_z4, nI_z5, nI_lt', nI_le', nI_eq', jaUI_at, jaPt_eq, jaPt_ne, jaUI_o, jaUI_2, jaUL_at, jaUL_o, jaUL_1, jaB_z, jaB_1, ↓jaB_01, Classical.not_not, and_self, true_or, or_true, nI_11, Nat.reduceEqDiff, Nat.reduceAdd, Nat.reduceMul, Nat.add_zero, Nat.zero_add, Nat.mul_zero, not_true_eq_false, not_false_eq_true, false_implies, true_implies]
      refine ⟨fun q => absurd q (by omega), fun _ => ?_⟩
      refine ih _ (f.ui (by decide)) (fun q hq => ?_)
      simp (disch := first | omega | decide) only [jaU_eq, jaU_U, nI_add, pk_mul, jaIx_nI, vp_inT, true_and, and_true, ↓jaO0, ↓jaO1, nI_z, nI_z2, nI_z3, nI_z4, nI_z5, nI_lt', nI_le', nI_eq', jaUI_at, jaPt_eq, jaPt_ne, jaUI_o, jaUI_2, jaUL_at, jaUL_o, jaUL_1, jaB_z, jaB_1, ↓jaB_01, Classical.not_not, and_self, true_or, or_true, nI_11, Nat.reduceEqDiff, Nat.reduceAdd, Nat.reduceMul, Nat.add_zero, Nat.zero_add, Nat.mul_zero, not_true_eq_false, not_false_eq_true, false_implies, true_implies]
      by_cases e1 : q = q0
      · rw [e1, jaPt_eq]
        rw [f.s 43 (by decide)]
        exact hrow q0 hq0
      · rw [jaPt_ne e1]
        exact hv q (by omega)
  · intro hall
    apply jb_Sc_run_43_1
    simp (disch := first | omega | decide) only [jaU_eq, jaU_U, nI_add, pk_mul, jaIx_nI, vp_inT, true_and, and_true, ↓jaO0, ↓jaO1, nI_z, nI_z2, nI_z3, nI_z4, nI_z5, nI_lt', nI_le', nI_eq', jaUI_at, jaPt_eq, jaPt_ne, jaUI_o, jaUI_2, jaUL_at, jaUL_o, jaUL_1, jaB_z, jaB_1, ↓jaB_01, Classical.not_not, and_self, true_or, or_true, nI_11, Nat.reduceEqDiff, Nat.reduceAdd, Nat.reduceMul, Nat.add_zero, Nat.zero_add, Nat.mul_zero, not_true_eq_false, not_false_eq_true, false_implies, true_implies, r2]
    rw [hd2]
    simp (disch := first | omega | decide) only [jaU_eq, jaU_U, nI_add, pk_mul, jaIx_nI, vp_inT, true_and, and_true, ↓jaO0, ↓jaO1, nI_z, nI_z2, nI_z3, nI_z4, nI_z5, nI_lt', nI_le', nI_eq', jaUI_at, jaPt_eq, jaPt_ne, jaUI_o, jaUI_2, jaUL_at, jaUL_o, jaUL_1, jaB_z, jaB_1, ↓jaB_01, Classical.not_not, and_self, true_or, or_true, nI_11, Nat.reduceEqDiff, Nat.reduceAdd, Nat.reduceMul, Nat.add_zero, Nat.zero_add, Nat.mul_zero, not_true_eq_false, not_false_eq_true, false_implies, true_implies]
    refine ⟨fun q => absurd q (by omega), fun _ => ?_⟩
    refine sp_Sc_keyAt_43 (by omega) ⟨r0, r1, r2, r3, r4⟩ hn hw' hK hj ?_
    have ha := (hda j hj).2
    simp (disch := first | omega | decide) only [jaU_eq, jaU_U, nI_add, pk_mul, jaIx_nI, vp_inT, true_and, and_true, ↓jaO0, ↓jaO1, nI_z, nI_z2, nI_z3, nI_z4, nI_z5, nI_lt', nI_le', nI_eq', jaUI_at, jaPt_eq, jaPt_ne, jaUI_o, jaUI_2, jaUL_at, jaUL_o, jaUL_1, jaB_z, jaB_1, ↓jaB_01, Classical.not_not, and_self, true_or, or_true, nI_11, Nat.reduceEqDiff, Nat.reduceAdd, Nat.reduceMul, Nat.add_zero, Nat.zero_add, Nat.mul_zero, not_true_eq_false, not_false_eq_true, false_implies, true_implies, hfe j hj]
    rw [hrow _ ha]
    refine ⟨fun q => ?_, fun q => ?_⟩
    · exact ih (fun i hi => if e1 : i = j then (by rw [e1]; exact q) else hall i (by omega))
    · have hag : jvAg R d e (nI K) id (133 * n) (jz d (133 * n + 2)) := ⟨j, hj, q⟩
      rw [jaIf1_t hag] at h
      exact h S jcF.rfl (fun v w hvw => absurd (congrArg Prod.fst hvw) (by show ¬ nI 3 = nI 2; decide))

set_option maxHeartbeats 2000000 in
theorem sp_Sc_run_18 {D : Nat} (hD : 3 ≤ D) {kk : Int32 → jaT → Prop} {σ : jaT} {S : jaS} {d e R : jvA} {k n id K : Nat}  (hk0 : 0 ≠ k) (hR : jRt S d n) (hn : n < 24) (hw : jWn K d n) (hK : K ≤ 10) (hid : id < 64) (hen : e (9 * id) = nI n) (hfe : ∀ j, j < jz d (133 * n + 2) → S.1 67 0 (4 * id + j) = e (9 * id + 5 + j)) (hfl : ∀ j, j < jz d (133 * n + 2) → e (9 * id + 5 + j) = nI (jz e (9 * id + 5 + j)) ∧ jz e (9 * id + 5 + j) < K)
    (hrow : ∀ q, q < K → (σ 0).1 18 0 q = R q) (h : ∀ S', jcF [42] S S' → (∀ v w, jvGo R d e (nI K) id = (nI 2, v, w) → ∀ q, q < K → S'.1 42 0 q = v q) → kk (jvGo R d e (nI K) id).1 (jaU σ k S')) :
    jaDe D jy_Sc_run [jcSc k, .inl (nI n), .inr (.inr (67, k, 0)), .inl (nI (4 * id)), .inr (.inr (18, 0, 0)), .inr (.inr (42, k, 0)), .inl (nI K)] (jaU σ k S) (jaKi kk) := by
  obtain ⟨D, rfl, hD⟩ := jaSuc hD
  have hw' := hw
  obtain ⟨hk1, hd0, ⟨hd1, hd1'⟩, ⟨hd2, hd2'⟩, hda, hds⟩ := hw
  obtain ⟨r0, r1, r2, r3, r4⟩ := hR
  have hgo : jvGo R d e (nI K) id = jaIf1 (jvAg R d e (nI K) id (133 * n) (jz d (133 * n + 2))) (nI 3, R, nI 0) (match jvSts d e id (133 * n) (jz d (133 * n + 1)) 0 R (nI 0) with
    | some (v, w) => (nI 2, v, w)
    | none => (nI 4, R, nI 0)) := by
    unfold jvGo
    rw [show jz e (9 * id) = n by rw [jz, hen, jaIx_nI (by omega)]]
    rfl
  rw [hgo] at h
  apply js_Sc_run_18
  have L6 : ∀ m i v w S', i + m = jz d (133 * n + 1) → jcF [42] S S' → (∀ q, q < K → S'.1 42 0 q = v q) →
      (∀ S'', jcF [42] S S'' → (∀ v' w', jvSts d e id (133 * n) m i v w = some (v', w') → (∀ q, q < K → S''.1 42 0 q = v' q) → kk (nI 2) (jaU σ k S'')) ∧ (jvSts d e id (133 * n) m i v w = none → kk (nI 4) (jaU σ k S''))) →
      jc_Sc_run_18_6 D kk k (nI n) k (nI (4 * id)) k (nI K) (nI i) (jaU σ k S') := by
    intro m
    induction m with
    | zero =>
      intro i v w S' him f hv hp
      apply jb_Sc_run_18_6
      simp (disch := first | omega | decide) only [jaU_eq, jaU_U, nI_add, pk_mul, jaIx_nI, vp_inT, true_and, and_true, ↓jaO0, ↓jaO1, nI_z, nI_z2, nI_z3, nI_z4, nI_z5, nI_lt', nI_le', nI_eq', jaUI_at, jaPt_eq, jaPt_ne, jaUI_o, jaUI_2, jaUL_at, jaUL_o, jaUL_1, jaB_z, jaB_1, ↓jaB_01, Classical.not_not, and_self, true_or, or_true, nI_11, Nat.reduceEqDiff, Nat.reduceAdd, Nat.reduceMul, Nat.add_zero, Nat.zero_add, Nat.mul_zero, not_true_eq_false, not_false_eq_true, false_implies, true_implies, f.s 56 (by decide), r1]
      rw [hd1]
      simp (disch := first | omega | decide) only [jaU_eq, jaU_U, nI_add, pk_mul, jaIx_nI, vp_inT, true_and, and_true, ↓jaO0, ↓jaO1, nI_z, nI_z2, nI_z3, nI_z4, nI_z5, nI_lt', nI_le', nI_eq', jaUI_at, jaPt_eq, jaPt_ne, jaUI_o, jaUI_2, jaUL_at, jaUL_o, jaUL_1, jaB_z, jaB_1, ↓jaB_01, Classical.not_not, and_self, true_or, or_true, nI_11, Nat.reduceEqDiff, Nat.reduceAdd, Nat.reduceMul, Nat.add_zero, Nat.zero_add, Nat.mul_zero, not_true_eq_false, not_false_eq_true, false_implies, true_implies]
      refine ⟨fun _ => ?_, fun q => absurd (by omega) q⟩
      exact (hp S' f).1 v w rfl hv
    | succ m ih =>
      intro i v w S' him f hv hp
      have hs := r4 i (by omega)
      have ht := hds i (by omega)
      obtain ⟨z, hz, hz2⟩ := jvKey_n ht.2.1 hfl hd2'
      rw [jvSts_s, hz2, jaIx_nI (by omega)] at hp
      apply jb_Sc_run_18_6
      simp (disch := first | omega | decide) only [jaU_eq, jaU_U, nI_add, pk_mul, jaIx_nI, vp_inT, true_and, and_true, ↓jaO0, ↓jaO1, nI_z, nI_z2, nI_z3, nI_z4, nI_z5, nI_lt', nI_le', nI_eq', jaUI_at, jaPt_eq, jaPt_ne, jaUI_o, jaUI_2, jaUL_at, jaUL_o, jaUL_1, jaB_z, jaB_1, ↓jaB_01, Classical.not_not, and_self, true_or, or_true, nI_11, Nat.reduceEqDiff, Nat.reduceAdd, Nat.reduceMul, Nat.add_zero, Nat.zero_add, Nat.mul_zero, not_true_eq_false, not_false_eq_true, false_implies, true_implies, f.s 56 (by decide), r1, jcIx]
      rw [hd1]
      simp (disch := first | omega | decide) only [jaU_eq, jaU_U, nI_add, pk_mul, jaIx_nI, vp_inT, true_and, and_true, ↓jaO0, ↓jaO1, nI_z, nI_z2, nI_z3, nI_z4, nI_z5, nI_lt', nI_le', nI_eq', jaUI_at, jaPt_eq, jaPt_ne, jaUI_o, jaUI_2, jaUL_at, jaUL_o, jaUL_1, jaB_z, jaB_1, ↓jaB_01, Classical.not_not, and_self, true_or, or_true, nI_11, Nat.reduceEqDiff, Nat.reduceAdd, Nat.reduceMul, Nat.add_zero, Nat.zero_add, Nat.mul_zero, not_true_eq_false, not_false_eq_true, false_implies, true_implies]
      refine ⟨fun q => absurd q (by omega), fun _ => ?_⟩
      refine sp_Sc_runStep (t := 133 * n + 7 + 21 * i) (v := v) (a := jz d (133 * n + 2)) (by omega) (by rw [f.s 59 (by decide)]; exact hs) (by omega) ht hd2' hK hid (by rw [f.s 67 (by decide)]; exact hfe) hfl hv (fun q1 => ?_) (fun q1 => ?_)
      · rw [jaIf1_t q1] at hp
        rw [hz2, jaIx_nI (by omega)]
        simp (disch := first | omega | decide) only [jaU_eq, jaU_U, nI_add, pk_mul, jaIx_nI, vp_inT, true_and, and_true, ↓jaO0, ↓jaO1, nI_z, nI_z2, nI_z3, nI_z4, nI_z5, nI_lt', nI_le', nI_eq', jaUI_at, jaPt_eq, jaPt_ne, jaUI_o, jaUI_2, jaUL_at, jaUL_o, jaUL_1, jaB_z, jaB_1, ↓jaB_01, Classical.not_not, and_self, true_or, or_true, nI_11, Nat.reduceEqDiff, Nat.reduceAdd, Nat.reduceMul, Nat.add_zero, Nat.zero_add, Nat.mul_zero, not_true_eq_false, not_false_eq_true, false_implies, true_implies]
        refine ⟨fun q2 => ?_, fun q2 => ?_⟩
        · rw [jaIf1_t q2] at hp
          exact ih (i + 1) v w S' (by omega) f hv hp
        · rw [jaIf1_f q2] at hp
          exact (hp S' f).2 rfl
      · rw [jaIf1_f (by rw [q1]; decide)] at hp
        rw [hz2, jaIx_nI (by omega)]
        simp (disch := first | omega | decide) only [jaU_eq, jaU_U, nI_add, pk_mul, jaIx_nI, vp_inT, true_and, and_true, ↓jaO0, ↓jaO1, nI_z, nI_z2, nI_z3, nI_z4, nI_z5, nI_lt', nI_le', nI_eq', jaUI_at, jaPt_eq, jaPt_ne, jaUI_o, jaUI_2, jaUL_at, jaUL_o, jaUL_1, jaB_z, jaB_1, ↓jaB_01, Classical.not_not, and_self, true_or, or_true, nI_11, Nat.reduceEqDiff, Nat.reduceAdd, Nat.reduceMul, Nat.add_zero, Nat.zero_add, Nat.mul_zero, not_true_eq_false, not_false_eq_true, false_implies, true_implies]
        refine ih (i + 1) _ _ _ (by omega) (f.ui (by decide)) (fun q hq => ?_) hp
        simp (disch := first | omega | decide) only [jaU_eq, jaU_U, nI_add, pk_mul, jaIx_nI, vp_inT, true_and, and_true, ↓jaO0, ↓jaO1, nI_z, nI_z2, nI_z3, nI_z4, nI_z5, nI_lt', nI_le', nI_eq', jaUI_at, jaPt_eq, jaPt_ne, jaUI_o, jaUI_2, jaUL_at, jaUL_o, jaUL_1, jaB_z, jaB_1, ↓jaB_01, Classical.not_not, and_self, true_or, or_true, nI_11, Nat.reduceEqDiff, Nat.reduceAdd, Nat.reduceMul, Nat.add_zero, Nat.zero_add, Nat.mul_zero, not_true_eq_false, not_false_eq_true, false_implies, true_implies]
        by_cases e1 : q = z
        · rw [e1, jaPt_eq, jaPt_eq]
        · rw [jaPt_ne e1, jaPt_ne e1]
          exact hv q hq
  refine jaFor (C := fun j => (∀ i, i < j → jvMod (R (jz d (133 * n + 3 + i))) (nI K) = e (9 * id + 5 + i)) → jc_Sc_run_18_1 D kk k (nI n) k (nI (4 * id)) k (nI K) (nI j) (jaU σ k S)) (N := jz d (133 * n + 2)) ?_ (fun j hj ih => ?_) (fun i hi => absurd hi (by omega))
  · intro hall
    have hna : ¬ jvAg R d e (nI K) id (133 * n) (jz d (133 * n + 2)) := fun ⟨i, hi, hi2⟩ => hi2 (hall i hi)
    rw [jaIf1_f hna] at h
    apply jb_Sc_run_18_1
    simp (disch := first | omega | decide) only [jaU_eq, jaU_U, nI_add, pk_mul, jaIx_nI, vp_inT, true_and, and_true, ↓jaO0, ↓jaO1, nI_z, nI_z2, nI_z3, nI_z4, nI_z5, nI_lt', nI_le', nI_eq', jaUI_at, jaPt_eq, jaPt_ne, jaUI_o, jaUI_2, jaUL_at, jaUL_o, jaUL_1, jaB_z, jaB_1, ↓jaB_01, Classical.not_not, and_self, true_or, or_true, nI_11, Nat.reduceEqDiff, Nat.reduceAdd, Nat.reduceMul, Nat.add_zero, Nat.zero_add, Nat.mul_zero, not_true_eq_false, not_false_eq_true, false_implies, true_implies, r2]
    rw [hd2]
    simp (disch := first | omega | decide) only [jaU_eq, jaU_U, nI_add, pk_mul, jaIx_nI, vp_inT, true_and, and_true, ↓jaO0, ↓jaO1, nI_z, nI_z2, nI_z3, nI_z4, nI_z5, nI_lt', nI_le', nI_eq', jaUI_at, jaPt_eq, jaPt_ne, jaUI_o, jaUI_2, jaUL_at, jaUL_o, jaUL_1, jaB_z, jaB_1, ↓jaB_01, Classical.not_not, and_self, true_or, or_true, nI_11, Nat.reduceEqDiff, Nat.reduceAdd, Nat.reduceMul, Nat.add_zero, Nat.zero_add, Nat.mul_zero, not_true_eq_false, not_false_eq_true, false_implies, true_implies]
    refine ⟨fun _ => ?_, fun q => absurd (by omega) q⟩
    refine jaFor (C := fun q0 => ∀ S', jcF [42] S S' → (∀ q, q < q0 → S'.1 42 0 q = R q) → jc_Sc_run_18_4 D kk k (nI n) k (nI (4 * id)) k (nI K) (nI q0) (jaU σ k S')) (N := K) ?_ (fun q0 hq0 ih => ?_) S jcF.rfl (fun q hq => absurd hq (by omega))
    · intro S' f hv
      apply jb_Sc_run_18_4
      simp (disch := first | omega | decide) only [jaU_eq, jaU_U, nI_add, pk_mul, jaIx_nI, vp_inT, true_and, and_true, ↓jaO0, ↓jaO1, nI_z, nI_z2, nI_z3, nI_z4, nI_z5, nI_lt', nI_le', nI_eq', jaUI_at, jaPt_eq, jaPt_ne, jaUI_o, jaUI_2, jaUL_at, jaUL_o, jaUL_1, jaB_z, jaB_1, ↓jaB_01, Classical.not_not, and_self, true_or, or_true, nI_11, Nat.reduceEqDiff, Nat.reduceAdd, Nat.reduceMul, Nat.add_zero, Nat.zero_add, Nat.mul_zero, not_true_eq_false, not_false_eq_true, false_implies, true_implies]
      refine ⟨fun _ => ?_, fun q => absurd (by omega) q⟩
      refine L6 _ 0 R (nI 0) S' (Nat.zero_add _) f hv (fun S'' f'' => ⟨fun v' w' hq hp => ?_, fun hq => ?_⟩)
      · rw [hq] at h
        exact h S'' f'' (fun v w hvw => by cases hvw; exact hp)
      · rw [hq] at h
        exact h S'' f'' (fun v w hvw => absurd (congrArg Prod.fst hvw) (by show ¬ nI 4 = nI 2; decide))
    · intro S' f hv
      apply jb_Sc_run_18_4
      simp (disch := first | omega | decide) only [jaU_eq, jaU_U, nI_add, pk_mul, jaIx_nI, vp_inT, true_and, and_true, ↓jaO0, ↓jaO1, nI_z, nI_z2, nI_z3, nI_z4, nI_z5, nI_lt', nI_le', nI_eq', jaUI_at, jaPt_eq, jaPt_ne, jaUI_o, jaUI_2, jaUL_at, jaUL_o, jaUL_1, jaB_z, jaB_1, ↓jaB_01, Classical.not_not, and_self, true_or, or_true, nI_11, Nat.reduceEqDiff, Nat.reduceAdd, Nat.reduceMul, Nat.add_zero, Nat.zero_add, Nat.mul_zero, not_true_eq_false, not_false_eq_true, false_implies, true_implies]
      refine ⟨fun q => absurd q (by omega), fun _ => ?_⟩
      refine ih _ (f.ui (by decide)) (fun q hq => ?_)
      simp (disch := first | omega | decide) only [jaU_eq, jaU_U, nI_add, pk_mul, jaIx_nI, vp_inT, true_and, and_true, ↓jaO0, ↓jaO1, nI_z, nI_z2, nI_z3, nI_z4, nI_z5, nI_lt', nI_le', nI_eq', jaUI_at, jaPt_eq, jaPt_ne, jaUI_o, jaUI_2, jaUL_at, jaUL_o, jaUL_1, jaB_z, jaB_1, ↓jaB_01, Classical.not_not, and_self, true_or, or_true, nI_11, Nat.reduceEqDiff, Nat.reduceAdd, Nat.reduceMul, Nat.add_zero, Nat.zero_add, Nat.mul_zero, not_true_eq_false, not_false_eq_true, false_implies, true_implies, jaU_ne hk0]
      by_cases e1 : q = q0
      · rw [e1, jaPt_eq]
        skip
        exact hrow q0 hq0
      · rw [jaPt_ne e1]
        exact hv q (by omega)
  · intro hall
    apply jb_Sc_run_18_1
    simp (disch := first | omega | decide) only [jaU_eq, jaU_U, nI_add, pk_mul, jaIx_nI, vp_inT, true_and, and_true, ↓jaO0, ↓jaO1, nI_z, nI_z2, nI_z3, nI_z4, nI_z5, nI_lt', nI_le', nI_eq', jaUI_at, jaPt_eq, jaPt_ne, jaUI_o, jaUI_2, jaUL_at, jaUL_o, jaUL_1, jaB_z, jaB_1, ↓jaB_01, Classical.not_not, and_self, true_or, or_true, nI_11, Nat.reduceEqDiff, Nat.reduceAdd, Nat.reduceMul, Nat.add_zero, Nat.zero_add, Nat.mul_zero, not_true_eq_false, not_false_eq_true, false_implies, true_implies, r2]
    rw [hd2]
    simp (disch := first | omega | decide) only [jaU_eq, jaU_U, nI_add, pk_mul, jaIx_nI, vp_inT, true_and, and_true, ↓jaO0, ↓jaO1, nI_z, nI_z2, nI_z3, nI_z4, nI_z5, nI_lt', nI_le', nI_eq', jaUI_at, jaPt_eq, jaPt_ne, jaUI_o, jaUI_2, jaUL_at, jaUL_o, jaUL_1, jaB_z, jaB_1, ↓jaB_01, Classical.not_not, and_self, true_or, or_true, nI_11, Nat.reduceEqDiff, Nat.reduceAdd, Nat.reduceMul, Nat.add_zero, Nat.zero_add, Nat.mul_zero, not_true_eq_false, not_false_eq_true, false_implies, true_implies]
    refine ⟨fun q => absurd q (by omega), fun _ => ?_⟩
    refine sp_Sc_keyAt_18 (by omega) hk0 ⟨r0, r1, r2, r3, r4⟩ hn hw' hK hj ?_
    have ha := (hda j hj).2
    simp (disch := first | omega | decide) only [jaU_eq, jaU_U, nI_add, pk_mul, jaIx_nI, vp_inT, true_and, and_true, ↓jaO0, ↓jaO1, nI_z, nI_z2, nI_z3, nI_z4, nI_z5, nI_lt', nI_le', nI_eq', jaUI_at, jaPt_eq, jaPt_ne, jaUI_o, jaUI_2, jaUL_at, jaUL_o, jaUL_1, jaB_z, jaB_1, ↓jaB_01, Classical.not_not, and_self, true_or, or_true, nI_11, Nat.reduceEqDiff, Nat.reduceAdd, Nat.reduceMul, Nat.add_zero, Nat.zero_add, Nat.mul_zero, not_true_eq_false, not_false_eq_true, false_implies, true_implies, hfe j hj]
    rw [hrow _ ha]
    refine ⟨fun q => ?_, fun q => ?_⟩
    · exact ih (fun i hi => if e1 : i = j then (by rw [e1]; exact q) else hall i (by omega))
    · have hag : jvAg R d e (nI K) id (133 * n) (jz d (133 * n + 2)) := ⟨j, hj, q⟩
      rw [jaIf1_t hag] at h
      exact h S jcF.rfl (fun v w hvw => absurd (congrArg Prod.fst hvw) (by show ¬ nI 3 = nI 2; decide))
end
