section
/-! the reference: how an entry goes, and what it writes -/
theorem jvKey_n {k a : Nat} {d e : jvA} {id p : Nat} (hf : jWf k a d p) (he : ∀ j, j < a → e (9 * id + 5 + j) = nI (jz e (9 * id + 5 + j)) ∧ jz e (9 * id + 5 + j) < k) (ha : a ≤ 4) : ∃ q, q < k ∧ jvKey d e id p = nI q := by
  obtain ⟨h1, h2, h3 | ⟨h3, h4⟩⟩ := hf
  · exact ⟨_, h2, by rw [jvKey, h3, jaIf1_f (by decide)]; exact h1⟩
  · refine ⟨_, (he _ h4).2, ?_⟩
    rw [jvKey, h3, jaIf1_t (nI_pos' (by omega)), jaIx_nI (by omega)]
    exact (he _ h4).1
theorem jvSts_s {d e : jvA} {id b m k : Nat} {v : jvA} {w : Int32} : jvSts d e id b (m + 1) k v w = jaIf1 (d (b + 7 + 21 * k) = nI 1) (jaIf1 (jvOk (d (b + 7 + 21 * k + 3)) (v (jaIx (jvKey d e id (b + 7 + 21 * k + 1)))) (jvSum d e id v (b + 7 + 21 * k) (jz d (b + 7 + 21 * k + 4)))) (jvSts d e id b m (k + 1) v w) none)
    (jvSts d e id b m (k + 1) (jaPt v (jaIx (jvKey d e id (b + 7 + 21 * k + 1))) (jvSum d e id v (b + 7 + 21 * k) (jz d (b + 7 + 21 * k + 4)))) (w ||| jaMk (jvKey d e id (b + 7 + 21 * k + 1)))) := rfl
theorem sp_M_valueBy_72 {D : Nat} (hD : 2 ≤ D) {kk : Int32 → jaT → Prop} {σ : jaT} {S : jaS} {R v : jvA} {w : Int32} {f k : Nat} (hR : S.1 72 0 = R) (hw : S.1 70 0 29 = w) (hk : k < 10) (hf : f + k < 706) (hv : v k = jaIf1 (jaBt w k) (S.1 80 0 k) (R (f + k))) (h : kk (v k) (jaU σ 20 S)) : jaDe D jy_M_valueBy [jaMo, .inr (.inr (72, 20, 0)), .inl (nI f), .inl (nI k)] (jaU σ 20 S) (jaKi kk) := by
  obtain ⟨D, rfl, hD⟩ := jaSuc hD
  apply js_M_valueBy_72
  simp (disch := first | omega | decide) only [jaU_eq, jaU_U, nI_add, pk_mul, jaIx_nI, vp_inT, true_and, and_true, ↓jaO0, ↓jaO1, nI_z, nI_z2, nI_z3, nI_z4, nI_z5, nI_lt', nI_le', nI_eq', jaUI_at, jaPt_eq, jaPt_ne, jaUI_o, jaUI_2, jaUL_at, jaUL_o, jaUL_1, jaB_z, jaB_1, ↓jaB_01, Classical.not_not, and_self, true_or, or_true, nI_11, Nat.reduceEqDiff, Nat.reduceAdd, Nat.reduceMul, Nat.add_zero, Nat.zero_add, Nat.mul_zero, not_true_eq_false, not_false_eq_true, false_implies, true_implies, hw]
  apply sp_M_bitOf (by omega)
  simp (disch := first | omega | decide) only [jaU_eq, jaU_U, nI_add, pk_mul, jaIx_nI, vp_inT, true_and, and_true, ↓jaO0, ↓jaO1, nI_z, nI_z2, nI_z3, nI_z4, nI_z5, nI_lt', nI_le', nI_eq', jaUI_at, jaPt_eq, jaPt_ne, jaUI_o, jaUI_2, jaUL_at, jaUL_o, jaUL_1, jaB_z, jaB_1, ↓jaB_01, Classical.not_not, and_self, true_or, or_true, nI_11, Nat.reduceEqDiff, Nat.reduceAdd, Nat.reduceMul, Nat.add_zero, Nat.zero_add, Nat.mul_zero, not_true_eq_false, not_false_eq_true, false_implies, true_implies, hR]
  rw [hv] at h
  refine ⟨fun q => ?_, fun q => ?_⟩
  · rwa [jaIf1_f q] at h
  · rwa [jaIf1_t q] at h
theorem sp_M_termBy_72 {D : Nat} (hD : 3 ≤ D) {kk : Int32 → jaT → Prop} {σ : jaT} {S : jaS} {d e R v : jvA} {w : Int32} {f k a id u : Nat} (hd : S.1 75 0 = d) (he : S.1 76 0 = e) (hR : S.1 72 0 = R) (hw : S.1 70 0 29 = w) (hf : f + 10 ≤ 706) (hid : id < 64) (hk : k ≤ 10) (ha : a ≤ 4) (hu : u < 3189)
    (hv : ∀ k, k < 10 → v k = jaIf1 (jaBt w k) (S.1 80 0 k) (R (f + k))) (hfu : jWu k a d u) (hfe : ∀ j, j < a → e (9 * id + 5 + j) = nI (jz e (9 * id + 5 + j)) ∧ jz e (9 * id + 5 + j) < k)
    (h : kk (jvTm d e id v u) (jaU σ 20 S)) : jaDe D jy_M_termBy [jaMo, .inr (.inr (72, 20, 0)), .inl (nI f), .inl (nI id), .inl (nI u)] (jaU σ 20 S) (jaKi kk) := by
  obtain ⟨D, rfl, hD⟩ := jaSuc hD
  apply js_M_termBy_72
  simp (disch := first | omega | decide) only [jaU_eq, jaU_U, nI_add, pk_mul, jaIx_nI, vp_inT, true_and, and_true, ↓jaO0, ↓jaO1, nI_z, nI_z2, nI_z3, nI_z4, nI_z5, nI_lt', nI_le', nI_eq', jaUI_at, jaPt_eq, jaPt_ne, jaUI_o, jaUI_2, jaUL_at, jaUL_o, jaUL_1, jaB_z, jaB_1, ↓jaB_01, Classical.not_not, and_self, true_or, or_true, nI_11, Nat.reduceEqDiff, Nat.reduceAdd, Nat.reduceMul, Nat.add_zero, Nat.zero_add, Nat.mul_zero, not_true_eq_false, not_false_eq_true, false_implies, true_implies, hd]
  obtain ⟨h1, h2⟩ := hfu
  unfold jvTm at h
  refine ⟨fun q => ?_, fun q => ?_⟩
  · rcases h1 with ⟨h1, _⟩ | ⟨h1, h3⟩
    · rw [h1] at q
      exact absurd nI_0 q
    · apply sp_M_keyBy (by omega) he hid h3 ha
      obtain ⟨z, hz, hz2⟩ := jvKey_n h3 hfe ha
      rw [hz2]
      apply sp_M_valueBy_72 (by omega) hR hw (by omega) (by omega) (hv z (by omega))
      simp (disch := first | omega | decide) only [jaU_eq, jaU_U, nI_add, pk_mul, jaIx_nI, vp_inT, true_and, and_true, ↓jaO0, ↓jaO1, nI_z, nI_z2, nI_z3, nI_z4, nI_z5, nI_lt', nI_le', nI_eq', jaUI_at, jaPt_eq, jaPt_ne, jaUI_o, jaUI_2, jaUL_at, jaUL_o, jaUL_1, jaB_z, jaB_1, ↓jaB_01, Classical.not_not, and_self, true_or, or_true, nI_11, Nat.reduceEqDiff, Nat.reduceAdd, Nat.reduceMul, Nat.add_zero, Nat.zero_add, Nat.mul_zero, not_true_eq_false, not_false_eq_true, false_implies, true_implies, hd]
      rw [jaIf1_f q, hz2, jaIx_nI (by omega)] at h
      refine ⟨fun q2 => ?_, fun q2 => ?_⟩
      · rwa [jaIf1_f q2] at h
      · rwa [jaIf1_t q2] at h
  · rw [jaIf1_t q] at h
    refine ⟨fun q2 => ?_, fun q2 => ?_⟩
    · rwa [jaIf1_f q2] at h
    · rwa [jaIf1_t q2] at h

theorem sp_M_valueBy_81 {D : Nat} (hD : 2 ≤ D) {kk : Int32 → jaT → Prop} {σ : jaT} {S : jaS} {R v : jvA} {w : Int32} {f k : Nat} (hR : S.1 81 0 = R) (hw : S.1 70 0 29 = w) (hk : k < 10) (hf : f + k < 10) (hv : v k = jaIf1 (jaBt w k) (S.1 80 0 k) (R (f + k))) (h : kk (v k) (jaU σ 20 S)) : jaDe D jy_M_valueBy [jaMo, .inr (.inr (81, 20, 0)), .inl (nI f), .inl (nI k)] (jaU σ 20 S) (jaKi kk) := by
  obtain ⟨D, rfl, hD⟩ := jaSuc hD
  apply js_M_valueBy_81
  simp (disch := first | omega | decide) only [jaU_eq, jaU_U, nI_add, pk_mul, jaIx_nI, vp_inT, true_and, and_true, ↓jaO0, ↓jaO1, nI_z, nI_z2, nI_z3, nI_z4, nI_z5, nI_lt', nI_le', nI_eq', jaUI_at, jaPt_eq, jaPt_ne, jaUI_o, jaUI_2, jaUL_at, jaUL_o, jaUL_1, jaB_z, jaB_1, ↓jaB_01, Classical.not_not, and_self, true_or, or_true, nI_11, Nat.reduceEqDiff, Nat.reduceAdd, Nat.reduceMul, Nat.add_zero, Nat.zero_add, Nat.mul_zero, not_true_eq_false, not_false_eq_true, false_implies, true_implies, hw]
  apply sp_M_bitOf (by omega)
  simp (disch := first | omega | decide) only [jaU_eq, jaU_U, nI_add, pk_mul, jaIx_nI, vp_inT, true_and, and_true, ↓jaO0, ↓jaO1, nI_z, nI_z2, nI_z3, nI_z4, nI_z5, nI_lt', nI_le', nI_eq', jaUI_at, jaPt_eq, jaPt_ne, jaUI_o, jaUI_2, jaUL_at, jaUL_o, jaUL_1, jaB_z, jaB_1, ↓jaB_01, Classical.not_not, and_self, true_or, or_true, nI_11, Nat.reduceEqDiff, Nat.reduceAdd, Nat.reduceMul, Nat.add_zero, Nat.zero_add, Nat.mul_zero, not_true_eq_false, not_false_eq_true, false_implies, true_implies, hR]
  rw [hv] at h
  refine ⟨fun q => ?_, fun q => ?_⟩
  · rwa [jaIf1_f q] at h
  · rwa [jaIf1_t q] at h
theorem sp_M_termBy_81 {D : Nat} (hD : 3 ≤ D) {kk : Int32 → jaT → Prop} {σ : jaT} {S : jaS} {d e R v : jvA} {w : Int32} {f k a id u : Nat} (hd : S.1 75 0 = d) (he : S.1 76 0 = e) (hR : S.1 81 0 = R) (hw : S.1 70 0 29 = w) (hf : f + 10 ≤ 10) (hid : id < 64) (hk : k ≤ 10) (ha : a ≤ 4) (hu : u < 3189)
    (hv : ∀ k, k < 10 → v k = jaIf1 (jaBt w k) (S.1 80 0 k) (R (f + k))) (hfu : jWu k a d u) (hfe : ∀ j, j < a → e (9 * id + 5 + j) = nI (jz e (9 * id + 5 + j)) ∧ jz e (9 * id + 5 + j) < k)
    (h : kk (jvTm d e id v u) (jaU σ 20 S)) : jaDe D jy_M_termBy [jaMo, .inr (.inr (81, 20, 0)), .inl (nI f), .inl (nI id), .inl (nI u)] (jaU σ 20 S) (jaKi kk) := by
  obtain ⟨D, rfl, hD⟩ := jaSuc hD
  apply js_M_termBy_81
  simp (disch := first | omega | decide) only [jaU_eq, jaU_U, nI_add, pk_mul, jaIx_nI, vp_inT, true_and, and_true, ↓jaO0, ↓jaO1, nI_z, nI_z2, nI_z3, nI_z4, nI_z5, nI_lt', nI_le', nI_eq', jaUI_at, jaPt_eq, jaPt_ne, jaUI_o, jaUI_2, jaUL_at, jaUL_o, jaUL_1, jaB_z, jaB_1, ↓jaB_01, Classical.not_not, and_self, true_or, or_true, nI_11, Nat.reduceEqDiff, Nat.reduceAdd, Nat.reduceMul, Nat.add_zero, Nat.zero_add, Nat.mul_zero, not_true_eq_false, not_false_eq_true, false_implies, true_implies, hd]
  obtain ⟨h1, h2⟩ := hfu
  unfold jvTm at h
  refine ⟨fun q => ?_, fun q => ?_⟩
  · rcases h1 with ⟨h1, _⟩ | ⟨h1, h3⟩
    · rw [h1] at q
      exact absurd nI_0 q
    · apply sp_M_keyBy (by omega) he hid h3 ha
      obtain ⟨z, hz, hz2⟩ := jvKey_n h3 hfe ha
      rw [hz2]
      apply sp_M_valueBy_81 (by omega) hR hw (by omega) (by omega) (hv z (by omega))
      simp (disch := first | omega | decide) only [jaU_eq, jaU_U, nI_add, pk_mul, jaIx_nI, vp_inT, true_and, and_true, ↓jaO0, ↓jaO1, nI_z, nI_z2, nI_z3, nI_z4, nI_z5, nI_lt', nI_le', nI_eq', jaUI_at, jaPt_eq, jaPt_ne, jaUI_o, jaUI_2, jaUL_at, jaUL_o, jaUL_1, jaB_z, jaB_1, ↓jaB_01, Classical.not_not, and_self, true_or, or_true, nI_11, Nat.reduceEqDiff, Nat.reduceAdd, Nat.reduceMul, Nat.add_zero, Nat.zero_add, Nat.mul_zero, not_true_eq_false, not_false_eq_true, false_implies, true_implies, hd]
      rw [jaIf1_f q, hz2, jaIx_nI (by omega)] at h
      refine ⟨fun q2 => ?_, fun q2 => ?_⟩
      · rwa [jaIf1_f q2] at h
      · rwa [jaIf1_t q2] at h
  · rw [jaIf1_t q] at h
    refine ⟨fun q2 => ?_, fun q2 => ?_⟩
    · rwa [jaIf1_f q2] at h
    · rwa [jaIf1_t q2] at h
theorem jaRec_ind {α : Type} {f : Nat → α → α} {a : α} (P : Nat → α → Prop) (N : Nat) (h0 : P 0 a) (hs : ∀ n x, n < N → P n x → P (n + 1) (f n x)) : ∀ n, n ≤ N → P n (jaRec f a n)
  | 0, _ => h0
  | n + 1, hn => hs n _ (by omega) (jaRec_ind P N h0 hs n (by omega))
theorem jaRec_s {α : Type} {f : Nat → α → α} {a : α} {n : Nat} : jaRec f a (n + 1) = f n (jaRec f a n) := rfl
set_option maxHeartbeats 2000000 in
theorem sp_M_goesBy_72 {D : Nat} (hD : 4 ≤ D) {kk : Int32 → jaT → Prop} {σ : jaT} {S : jaS} {s d e R : jvA} {f n id K : Nat} (hs : S.1 72 0 = s) (hd : S.1 75 0 = d) (he : S.1 76 0 = e) (hR : S.1 72 0 = R) (hf : f + 10 ≤ 706) (hid : id < 64) (hK : s 1 = nI K) (hK' : K ≤ 10) (hn : e (9 * id) = nI n) (hn' : n < 24) (hw : jWn K d n)
    (hfe : ∀ j, j < jz d (133 * n + 2) → e (9 * id + 5 + j) = nI (jz e (9 * id + 5 + j)) ∧ jz e (9 * id + 5 + j) < K)
    (h : ∀ S', jaFr [80] [29] S S' → (∀ v w, jvGo (fun k => R (f + k)) d e (nI K) id = (nI 2, v, w) → S'.1 70 0 29 = w ∧ ∀ k, k < 10 → v k = jaIf1 (jaBt w k) (S'.1 80 0 k) (R (f + k))) → kk (jvGo (fun k => R (f + k)) d e (nI K) id).1 (jaU σ 20 S')) :
    jaDe D jy_M_goesBy [jaMo, .inr (.inr (72, 20, 0)), .inl (nI f), .inl (nI id)] (jaU σ 20 S) (jaKi kk) := by
  obtain ⟨D, rfl, hD⟩ := jaSuc hD
  obtain rfl : R = s := hR.symm.trans hs
  obtain ⟨hk1, ⟨hd0, hd0'⟩, ⟨hd1, hd1'⟩, ⟨hd2, hd2'⟩, hda, hds⟩ := hw
  have hgo : jvGo (fun k => R (f + k)) d e (nI K) id = jaIf1 (jvAg (fun k => R (f + k)) d e (nI K) id (133 * n) (jz d (133 * n + 2))) (nI 3, (fun k => R (f + k)), nI 0) (match jvSts d e id (133 * n) (jz d (133 * n + 1)) 0 (fun k => R (f + k)) (nI 0) with
    | some (v, w) => (nI 2, v, w)
    | none => (nI 4, (fun k => R (f + k)), nI 0)) := by
    unfold jvGo
    rw [show jz e (9 * id) = n by rw [jz, hn, jaIx_nI (by omega)]]
    rfl
  rw [hgo] at h
  apply js_M_goesBy_72
  simp (disch := first | omega | decide) only [jaU_eq, jaU_U, nI_add, pk_mul, jaIx_nI, vp_inT, true_and, and_true, ↓jaO0, ↓jaO1, nI_z, nI_z2, nI_z3, nI_z4, nI_z5, nI_lt', nI_le', nI_eq', jaUI_at, jaPt_eq, jaPt_ne, jaUI_o, jaUI_2, jaUL_at, jaUL_o, jaUL_1, jaB_z, jaB_1, ↓jaB_01, Classical.not_not, and_self, true_or, or_true, nI_11, Nat.reduceEqDiff, Nat.reduceAdd, Nat.reduceMul, Nat.add_zero, Nat.zero_add, Nat.mul_zero, not_true_eq_false, not_false_eq_true, false_implies, true_implies, he, hn]
  -- the steps
  have L6 : ∀ m k v w S' u6 u7 u8 u9, k + m = jz d (133 * n + 1) → jaFr [80] [29] S S' → S'.1 70 0 29 = w → (∀ k, k < 10 → v k = jaIf1 (jaBt w k) (S'.1 80 0 k) (R (f + k))) →
      (∀ S'', jaFr [80] [29] S S'' → (∀ v' w', jvSts d e id (133 * n) m k v w = some (v', w') → (S''.1 70 0 29 = w' ∧ ∀ k, k < 10 → v' k = jaIf1 (jaBt w' k) (S''.1 80 0 k) (R (f + k))) → kk (nI 2) (jaU σ 20 S'')) ∧ (jvSts d e id (133 * n) m k v w = none → kk (nI 4) (jaU σ 20 S''))) →
      jc_M_goesBy_72_6 D kk (nI f) (nI id) (nI (133 * n)) (nI k) u6 u7 u8 u9 (jaU σ 20 S') := by
    intro m
    induction m with
    | zero =>
      intro k v w S' u6 u7 u8 u9 hkm hF hgw hv hp
      apply jb_M_goesBy_72_6
      simp (disch := first | omega | decide) only [jaU_eq, jaU_U, nI_add, pk_mul, jaIx_nI, vp_inT, true_and, and_true, ↓jaO0, ↓jaO1, nI_z, nI_z2, nI_z3, nI_z4, nI_z5, nI_lt', nI_le', nI_eq', jaUI_at, jaPt_eq, jaPt_ne, jaUI_o, jaUI_2, jaUL_at, jaUL_o, jaUL_1, jaB_z, jaB_1, ↓jaB_01, Classical.not_not, and_self, true_or, or_true, nI_11, Nat.reduceEqDiff, Nat.reduceAdd, Nat.reduceMul, Nat.add_zero, Nat.zero_add, Nat.mul_zero, not_true_eq_false, not_false_eq_true, false_implies, true_implies, ((congrFun (hF.s 75 (by decide) (by decide)) 0).trans hd)]
      rw [hd1]
      simp (disch := first | omega | decide) only [jaU_eq, jaU_U, nI_add, pk_mul, jaIx_nI, vp_inT, true_and, and_true, ↓jaO0, ↓jaO1, nI_z, nI_z2, nI_z3, nI_z4, nI_z5, nI_lt', nI_le', nI_eq', jaUI_at, jaPt_eq, jaPt_ne, jaUI_o, jaUI_2, jaUL_at, jaUL_o, jaUL_1, jaB_z, jaB_1, ↓jaB_01, Classical.not_not, and_self, true_or, or_true, nI_11, Nat.reduceEqDiff, Nat.reduceAdd, Nat.reduceMul, Nat.add_zero, Nat.zero_add, Nat.mul_zero, not_true_eq_false, not_false_eq_true, false_implies, true_implies]
      refine ⟨fun _ => ?_, fun q => absurd (by omega) q⟩
      exact (hp S' hF).1 v w rfl ⟨hgw, hv⟩
    | succ m ih =>
      intro k v w S' u6 u7 u8 u9 hkm hF hgw hv hp
      obtain ⟨ht0, htf, ⟨htg, htg1, htg2⟩, ⟨htn, htn'⟩, htu⟩ := hds k (by omega)
      apply jb_M_goesBy_72_6
      simp (disch := first | omega | decide) only [jaU_eq, jaU_U, nI_add, pk_mul, jaIx_nI, vp_inT, true_and, and_true, ↓jaO0, ↓jaO1, nI_z, nI_z2, nI_z3, nI_z4, nI_z5, nI_lt', nI_le', nI_eq', jaUI_at, jaPt_eq, jaPt_ne, jaUI_o, jaUI_2, jaUL_at, jaUL_o, jaUL_1, jaB_z, jaB_1, ↓jaB_01, Classical.not_not, and_self, true_or, or_true, nI_11, Nat.reduceEqDiff, Nat.reduceAdd, Nat.reduceMul, Nat.add_zero, Nat.zero_add, Nat.mul_zero, not_true_eq_false, not_false_eq_true, false_implies, true_implies, ((congrFun (hF.s 75 (by decide) (by decide)) 0).trans hd)]
      rw [hd1]
      simp (disch := first | omega | decide) only [jaU_eq, jaU_U, nI_add, pk_mul, jaIx_nI, vp_inT, true_and, and_true, ↓jaO0, ↓jaO1, nI_z, nI_z2, nI_z3, nI_z4, nI_z5, nI_lt', nI_le', nI_eq', jaUI_at, jaPt_eq, jaPt_ne, jaUI_o, jaUI_2, jaUL_at, jaUL_o, jaUL_1, jaB_z, jaB_1, ↓jaB_01, Classical.not_not, and_self, true_or, or_true, nI_11, Nat.reduceEqDiff, Nat.reduceAdd, Nat.reduceMul, Nat.add_zero, Nat.zero_add, Nat.mul_zero, not_true_eq_false, not_false_eq_true, false_implies, true_implies]
      refine ⟨fun q => absurd q (by omega), fun _ => ?_⟩
      apply sp_M_keyBy (by omega) ((congrFun (hF.s 76 (by decide) (by decide)) 0).trans he) hid htf hd2'
      obtain ⟨z, hz, hz2⟩ := jvKey_n htf hfe hd2'
      rw [jvSts_s, hz2, jaIx_nI (by omega)] at hp
      rw [hz2]
      refine jaFor (C := fun x => jc_M_goesBy_72_7 D kk (nI f) (nI id) (nI (133 * n)) (nI k) (nI (133 * n + 7 + 21 * k)) (nI z) (jvSum d e id v (133 * n + 7 + 21 * k) x) (nI x) (jaU σ 20 S')) (N := jz d (133 * n + 7 + 21 * k + 4)) ?_ (fun x hx ih7 => ?_)
      · generalize hsum : jvSum d e id v (133 * n + 7 + 21 * k) (jz d (133 * n + 7 + 21 * k + 4)) = sum at *
        apply jb_M_goesBy_72_7
        simp (disch := first | omega | decide) only [jaU_eq, jaU_U, nI_add, pk_mul, jaIx_nI, vp_inT, true_and, and_true, ↓jaO0, ↓jaO1, nI_z, nI_z2, nI_z3, nI_z4, nI_z5, nI_lt', nI_le', nI_eq', jaUI_at, jaPt_eq, jaPt_ne, jaUI_o, jaUI_2, jaUL_at, jaUL_o, jaUL_1, jaB_z, jaB_1, ↓jaB_01, Classical.not_not, and_self, true_or, or_true, nI_11, Nat.reduceEqDiff, Nat.reduceAdd, Nat.reduceMul, Nat.add_zero, Nat.zero_add, Nat.mul_zero, not_true_eq_false, not_false_eq_true, false_implies, true_implies, ((congrFun (hF.s 75 (by decide) (by decide)) 0).trans hd)]
        rw [htn]
        simp (disch := first | omega | decide) only [jaU_eq, jaU_U, nI_add, pk_mul, jaIx_nI, vp_inT, true_and, and_true, ↓jaO0, ↓jaO1, nI_z, nI_z2, nI_z3, nI_z4, nI_z5, nI_lt', nI_le', nI_eq', jaUI_at, jaPt_eq, jaPt_ne, jaUI_o, jaUI_2, jaUL_at, jaUL_o, jaUL_1, jaB_z, jaB_1, ↓jaB_01, Classical.not_not, and_self, true_or, or_true, nI_11, Nat.reduceEqDiff, Nat.reduceAdd, Nat.reduceMul, Nat.add_zero, Nat.zero_add, Nat.mul_zero, not_true_eq_false, not_false_eq_true, false_implies, true_implies]
        refine ⟨fun _ => ?_, fun q => absurd (by omega) q⟩
        refine ⟨fun q => ?_, fun q => ?_⟩
        · rw [jaIf1_f q] at hp
          refine ih (k + 1) _ _ _ _ _ _ _ (by omega) ?_ ?_ ?_ hp
          · (repeat' first | assumption | exact jaFr.rfl | refine jaFr.ui ?_ (by decide) (by decide) | refine jaFr.uf ?_ (by decide) | exact jaFr.mono (by assumption) (by decide) (by decide))
          · simp (disch := first | omega | decide) only [jaU_eq, jaU_U, nI_add, pk_mul, jaIx_nI, vp_inT, true_and, and_true, ↓jaO0, ↓jaO1, nI_z, nI_z2, nI_z3, nI_z4, nI_z5, nI_lt', nI_le', nI_eq', jaUI_at, jaPt_eq, jaPt_ne, jaUI_o, jaUI_2, jaUL_at, jaUL_o, jaUL_1, jaB_z, jaB_1, ↓jaB_01, Classical.not_not, and_self, true_or, or_true, nI_11, Nat.reduceEqDiff, Nat.reduceAdd, Nat.reduceMul, Nat.add_zero, Nat.zero_add, Nat.mul_zero, not_true_eq_false, not_false_eq_true, false_implies, true_implies, hgw]
            rfl
          · intro k' hk'
            rw [show jaBt (w ||| jaMk (nI z)) k' = (jaBt w k' ∨ k' = z) from propext (jaBt_orm (by omega) (by omega))]
            simp (disch := first | omega | decide) only [jaU_eq, jaU_U, nI_add, pk_mul, jaIx_nI, vp_inT, true_and, and_true, ↓jaO0, ↓jaO1, nI_z, nI_z2, nI_z3, nI_z4, nI_z5, nI_lt', nI_le', nI_eq', jaUI_at, jaPt_eq, jaPt_ne, jaUI_o, jaUI_2, jaUL_at, jaUL_o, jaUL_1, jaB_z, jaB_1, ↓jaB_01, Classical.not_not, and_self, true_or, or_true, nI_11, Nat.reduceEqDiff, Nat.reduceAdd, Nat.reduceMul, Nat.add_zero, Nat.zero_add, Nat.mul_zero, not_true_eq_false, not_false_eq_true, false_implies, true_implies]
            by_cases e1 : k' = z
            · rw [e1, jaPt_eq, jaIf1_t (Or.inr rfl), jaPt_eq]
            · rw [jaPt_ne e1, hv k' hk', jaPt_ne e1]
              by_cases e2 : jaBt w k'
              · rw [jaIf1_t e2, jaIf1_t (Or.inl e2)]
              · rw [jaIf1_f e2, jaIf1_f (fun x => x.elim e2 e1)]
        · rw [jaIf1_t q] at hp
          apply sp_M_valueBy_72 (by omega) ((congrFun (hF.s 72 (by decide) (by decide)) 0).trans hR) hgw (by omega) (by omega) (hv z (by omega))
          have hok : ∀ u6 u7 u8 u9, jvOk (d (133 * n + 7 + 21 * k + 3)) (v z) sum → jc_M_goesBy_72_6 D kk (nI f) (nI id) (nI (133 * n)) (nI (k + 1)) u6 u7 u8 u9 (jaU σ 20 S') := fun u6 u7 u8 u9 hq => ih (k + 1) v w S' u6 u7 u8 u9 (by omega) hF hgw hv (by rw [jaIf1_t hq] at hp; exact hp)
          have hno : ¬ jvOk (d (133 * n + 7 + 21 * k + 3)) (v z) sum → kk (nI 4) (jaU σ 20 S') := fun hq => (hp S' hF).2 (jaIf1_f hq)
          simp (disch := first | omega | decide) only [jaU_eq, jaU_U, nI_add, pk_mul, jaIx_nI, vp_inT, true_and, and_true, ↓jaO0, ↓jaO1, nI_z, nI_z2, nI_z3, nI_z4, nI_z5, nI_lt', nI_le', nI_eq', jaUI_at, jaPt_eq, jaPt_ne, jaUI_o, jaUI_2, jaUL_at, jaUL_o, jaUL_1, jaB_z, jaB_1, ↓jaB_01, Classical.not_not, and_self, true_or, or_true, nI_11, Nat.reduceEqDiff, Nat.reduceAdd, Nat.reduceMul, Nat.add_zero, Nat.zero_add, Nat.mul_zero, not_true_eq_false, not_false_eq_true, false_implies, true_implies, ((congrFun (hF.s 75 (by decide) (by decide)) 0).trans hd)]
          refine ⟨fun q2 => ⟨fun q3 => ⟨fun q4 => hok _ _ _ _ (Or.inr (Or.inr ⟨q2, q3, q4⟩)), fun q4 => hno (fun x => ?_)⟩, fun q3 => ⟨fun q4 => hno (fun x => ?_), fun q4 => hok _ _ _ _ (Or.inr (Or.inl ⟨q3, q4⟩))⟩⟩, fun q2 => ⟨fun q4 => hno (fun x => ?_), fun q4 => hok _ _ _ _ (Or.inl ⟨q2, q4⟩)⟩⟩
          · rcases x with x | x | x
            · exact q2 x.1
            · exact q3 x.1
            · exact q4 x.2.2
          · rcases x with x | x | x
            · exact q2 x.1
            · exact q4 x.2
            · exact x.2.1 q3
          · rcases x with x | x | x
            · exact x.2 q4
            · rw [x.1] at q2
              exact absurd q2 (by decide)
            · exact x.1 q2
      · apply jb_M_goesBy_72_7
        simp (disch := first | omega | decide) only [jaU_eq, jaU_U, nI_add, pk_mul, jaIx_nI, vp_inT, true_and, and_true, ↓jaO0, ↓jaO1, nI_z, nI_z2, nI_z3, nI_z4, nI_z5, nI_lt', nI_le', nI_eq', jaUI_at, jaPt_eq, jaPt_ne, jaUI_o, jaUI_2, jaUL_at, jaUL_o, jaUL_1, jaB_z, jaB_1, ↓jaB_01, Classical.not_not, and_self, true_or, or_true, nI_11, Nat.reduceEqDiff, Nat.reduceAdd, Nat.reduceMul, Nat.add_zero, Nat.zero_add, Nat.mul_zero, not_true_eq_false, not_false_eq_true, false_implies, true_implies, ((congrFun (hF.s 75 (by decide) (by decide)) 0).trans hd)]
        rw [htn]
        simp (disch := first | omega | decide) only [jaU_eq, jaU_U, nI_add, pk_mul, jaIx_nI, vp_inT, true_and, and_true, ↓jaO0, ↓jaO1, nI_z, nI_z2, nI_z3, nI_z4, nI_z5, nI_lt', nI_le', nI_eq', jaUI_at, jaPt_eq, jaPt_ne, jaUI_o, jaUI_2, jaUL_at, jaUL_o, jaUL_1, jaB_z, jaB_1, ↓jaB_01, Classical.not_not, and_self, true_or, or_true, nI_11, Nat.reduceEqDiff, Nat.reduceAdd, Nat.reduceMul, Nat.add_zero, Nat.zero_add, Nat.mul_zero, not_true_eq_false, not_false_eq_true, false_implies, true_implies]
        refine ⟨fun q => absurd q (by omega), fun _ => ?_⟩
        apply sp_M_termBy_72 (by omega) ((congrFun (hF.s 75 (by decide) (by decide)) 0).trans hd) ((congrFun (hF.s 76 (by decide) (by decide)) 0).trans he) ((congrFun (hF.s 72 (by decide) (by decide)) 0).trans hR) hgw (by omega) hid hK' hd2' (by omega) hv (htu x hx) hfe
        exact ih7
  have L1 : ∀ m j S' u6, j + m = jz d (133 * n + 2) → (∀ i, i < j → jvMod (R (f + jz d (133 * n + 3 + i))) (nI K) = e (9 * id + 5 + i)) → jaFr [80] [29] S S' → S'.1 70 0 29 = nI 0 → jc_M_goesBy_72_1 D kk (nI f) (nI id) (nI (133 * n)) (nI j) u6 (jaU σ 20 S') := by
    intro m
    induction m with
    | zero =>
      intro j S' u6 hj hall hF hg
      apply jb_M_goesBy_72_1
      simp (disch := first | omega | decide) only [jaU_eq, jaU_U, nI_add, pk_mul, jaIx_nI, vp_inT, true_and, and_true, ↓jaO0, ↓jaO1, nI_z, nI_z2, nI_z3, nI_z4, nI_z5, nI_lt', nI_le', nI_eq', jaUI_at, jaPt_eq, jaPt_ne, jaUI_o, jaUI_2, jaUL_at, jaUL_o, jaUL_1, jaB_z, jaB_1, ↓jaB_01, Classical.not_not, and_self, true_or, or_true, nI_11, Nat.reduceEqDiff, Nat.reduceAdd, Nat.reduceMul, Nat.add_zero, Nat.zero_add, Nat.mul_zero, not_true_eq_false, not_false_eq_true, false_implies, true_implies, ((congrFun (hF.s 75 (by decide) (by decide)) 0).trans hd)]
      rw [hd2]
      simp (disch := first | omega | decide) only [jaU_eq, jaU_U, nI_add, pk_mul, jaIx_nI, vp_inT, true_and, and_true, ↓jaO0, ↓jaO1, nI_z, nI_z2, nI_z3, nI_z4, nI_z5, nI_lt', nI_le', nI_eq', jaUI_at, jaPt_eq, jaPt_ne, jaUI_o, jaUI_2, jaUL_at, jaUL_o, jaUL_1, jaB_z, jaB_1, ↓jaB_01, Classical.not_not, and_self, true_or, or_true, nI_11, Nat.reduceEqDiff, Nat.reduceAdd, Nat.reduceMul, Nat.add_zero, Nat.zero_add, Nat.mul_zero, not_true_eq_false, not_false_eq_true, false_implies, true_implies]
      refine ⟨fun _ => ?_, fun q => absurd (by omega) q⟩
      have hna : ¬ jvAg (fun k => R (f + k)) d e (nI K) id (133 * n) (jz d (133 * n + 2)) := fun ⟨i, hi, hi2⟩ => hi2 (hall i (by omega))
      rw [jaIf1_f hna] at h
      refine L6 (jz d (133 * n + 1)) 0 (fun k => R (f + k)) (nI 0) S' _ _ _ _ (by omega) hF hg (fun k hk => ?_) (fun S'' hF'' => ⟨fun v' w' hq hp => ?_, fun hq => ?_⟩)
      · rw [jaIf1_f (jaBt_0 (by omega))]
      · rw [hq] at h
        exact h S'' hF'' (fun v w hvw => by cases hvw; exact hp)
      · rw [hq] at h
        exact h S'' hF'' (fun v w hvw => absurd (congrArg Prod.fst hvw) (by show ¬ nI 4 = nI 2; decide))
    | succ m ih =>
      intro j S' u6 hj hall hF hg
      obtain ⟨ha1, ha2⟩ := hda j (by omega)
      apply jb_M_goesBy_72_1
      simp (disch := first | omega | decide) only [jaU_eq, jaU_U, nI_add, pk_mul, jaIx_nI, vp_inT, true_and, and_true, ↓jaO0, ↓jaO1, nI_z, nI_z2, nI_z3, nI_z4, nI_z5, nI_lt', nI_le', nI_eq', jaUI_at, jaPt_eq, jaPt_ne, jaUI_o, jaUI_2, jaUL_at, jaUL_o, jaUL_1, jaB_z, jaB_1, ↓jaB_01, Classical.not_not, and_self, true_or, or_true, nI_11, Nat.reduceEqDiff, Nat.reduceAdd, Nat.reduceMul, Nat.add_zero, Nat.zero_add, Nat.mul_zero, not_true_eq_false, not_false_eq_true, false_implies, true_implies, ((congrFun (hF.s 75 (by decide) (by decide)) 0).trans hd), ((congrFun (hF.s 76 (by decide) (by decide)) 0).trans he), ((congrFun (hF.s 72 (by decide) (by decide)) 0).trans hs), ((congrFun (hF.s 72 (by decide) (by decide)) 0).trans hR)]
      rw [hd2, ha1, hK]
      simp (disch := first | omega | decide) only [jaU_eq, jaU_U, nI_add, pk_mul, jaIx_nI, vp_inT, true_and, and_true, ↓jaO0, ↓jaO1, nI_z, nI_z2, nI_z3, nI_z4, nI_z5, nI_lt', nI_le', nI_eq', jaUI_at, jaPt_eq, jaPt_ne, jaUI_o, jaUI_2, jaUL_at, jaUL_o, jaUL_1, jaB_z, jaB_1, ↓jaB_01, Classical.not_not, and_self, true_or, or_true, nI_11, Nat.reduceEqDiff, Nat.reduceAdd, Nat.reduceMul, Nat.add_zero, Nat.zero_add, Nat.mul_zero, not_true_eq_false, not_false_eq_true, false_implies, true_implies]
      refine ⟨fun q => absurd q (by omega), fun _ => ?_⟩
      have hgo2 : ∀ u6, jvMod (R (f + jz d (133 * n + 3 + j))) (nI K) = e (9 * id + 5 + j) → jc_M_goesBy_72_1 D kk (nI f) (nI id) (nI (133 * n)) (nI (j + 1)) u6 (jaU σ 20 S') := fun u6 hq => ih (j + 1) S' u6 (by omega) (fun i hi => if e1 : i = j then (by rw [e1]; exact hq) else hall i (by omega)) hF hg
      have hno : ¬ jvMod (R (f + jz d (133 * n + 3 + j))) (nI K) = e (9 * id + 5 + j) → kk (nI 3) (jaU σ 20 S') := fun hq => by
        have hag : jvAg (fun k => R (f + k)) d e (nI K) id (133 * n) (jz d (133 * n + 2)) := ⟨j, by omega, hq⟩
        rw [jaIf1_t hag] at h
        exact h S' hF (fun v w hvw => absurd (congrArg Prod.fst hvw) (by show ¬ nI 3 = nI 2; decide))
      refine ⟨by omega, fun q => ?_, fun q => ?_⟩
      · rw [jvMod, jaIf1_t q] at hgo2 hno
        exact ⟨fun q2 => hgo2 _ q2, fun q2 => hno q2⟩
      · rw [jvMod, jaIf1_f q] at hgo2 hno
        exact ⟨fun q2 => hgo2 _ q2, fun q2 => hno q2⟩
  refine L1 (jz d (133 * n + 2)) 0 _ _ (by omega) (fun i hi => absurd hi (by omega)) ?_ ?_
  · (repeat' first | assumption | exact jaFr.rfl | refine jaFr.ui ?_ (by decide) (by decide) | refine jaFr.uf ?_ (by decide) | exact jaFr.mono (by assumption) (by decide) (by decide))
  · simp (disch := first | omega | decide) only [jaU_eq, jaU_U, nI_add, pk_mul, jaIx_nI, vp_inT, true_and, and_true, ↓jaO0, ↓jaO1, nI_z, nI_z2, nI_z3, nI_z4, nI_z5, nI_lt', nI_le', nI_eq', jaUI_at, jaPt_eq, jaPt_ne, jaUI_o, jaUI_2, jaUL_at, jaUL_o, jaUL_1, jaB_z, jaB_1, ↓jaB_01, Classical.not_not, and_self, true_or, or_true, nI_11, Nat.reduceEqDiff, Nat.reduceAdd, Nat.reduceMul, Nat.add_zero, Nat.zero_add, Nat.mul_zero, not_true_eq_false, not_false_eq_true, false_implies, true_implies]

set_option maxHeartbeats 2000000 in
theorem sp_M_goesBy_81 {D : Nat} (hD : 4 ≤ D) {kk : Int32 → jaT → Prop} {σ : jaT} {S : jaS} {s d e R : jvA} {f n id K : Nat} (hs : S.1 72 0 = s) (hd : S.1 75 0 = d) (he : S.1 76 0 = e) (hR : S.1 81 0 = R) (hf : f + 10 ≤ 10) (hid : id < 64) (hK : s 1 = nI K) (hK' : K ≤ 10) (hn : e (9 * id) = nI n) (hn' : n < 24) (hw : jWn K d n)
    (hfe : ∀ j, j < jz d (133 * n + 2) → e (9 * id + 5 + j) = nI (jz e (9 * id + 5 + j)) ∧ jz e (9 * id + 5 + j) < K)
    (h : ∀ S', jaFr [80] [29] S S' → (∀ v w, jvGo (fun k => R (f + k)) d e (nI K) id = (nI 2, v, w) → S'.1 70 0 29 = w ∧ ∀ k, k < 10 → v k = jaIf1 (jaBt w k) (S'.1 80 0 k) (R (f + k))) → kk (jvGo (fun k => R (f + k)) d e (nI K) id).1 (jaU σ 20 S')) :
    jaDe D jy_M_goesBy [jaMo, .inr (.inr (81, 20, 0)), .inl (nI f), .inl (nI id)] (jaU σ 20 S) (jaKi kk) := by
  obtain ⟨D, rfl, hD⟩ := jaSuc hD
  skip
  obtain ⟨hk1, ⟨hd0, hd0'⟩, ⟨hd1, hd1'⟩, ⟨hd2, hd2'⟩, hda, hds⟩ := hw
  have hgo : jvGo (fun k => R (f + k)) d e (nI K) id = jaIf1 (jvAg (fun k => R (f + k)) d e (nI K) id (133 * n) (jz d (133 * n + 2))) (nI 3, (fun k => R (f + k)), nI 0) (match jvSts d e id (133 * n) (jz d (133 * n + 1)) 0 (fun k => R (f + k)) (nI 0) with
    | some (v, w) => (nI 2, v, w)
    | none => (nI 4, (fun k => R (f + k)), nI 0)) := by
    unfold jvGo
    rw [show jz e (9 * id) = n by rw [jz, hn, jaIx_nI (by omega)]]
    rfl
  rw [hgo] at h
  apply js_M_goesBy_81
  simp (disch := first | omega | decide) only [jaU_eq, jaU_U, nI_add, pk_mul, jaIx_nI, vp_inT, true_and, and_true, ↓jaO0, ↓jaO1, nI_z, nI_z2, nI_z3, nI_z4, nI_z5, nI_lt', nI_le', nI_eq', jaUI_at, jaPt_eq, jaPt_ne, jaUI_o, jaUI_2, jaUL_at, jaUL_o, jaUL_1, jaB_z, jaB_1, ↓jaB_01, Classical.not_not, and_self, true_or, or_true, nI_11, Nat.reduceEqDiff, Nat.reduceAdd, Nat.reduceMul, Nat.add_zero, Nat.zero_add, Nat.mul_zero, not_true_eq_false, not_false_eq_true, false_implies, true_implies, he, hn]
  -- the steps
  have L6 : ∀ m k v w S' u6 u7 u8 u9, k + m = jz d (133 * n + 1) → jaFr [80] [29] S S' → S'.1 70 0 29 = w → (∀ k, k < 10 → v k = jaIf1 (jaBt w k) (S'.1 80 0 k) (R (f + k))) →
      (∀ S'', jaFr [80] [29] S S'' → (∀ v' w', jvSts d e id (133 * n) m k v w = some (v', w') → (S''.1 70 0 29 = w' ∧ ∀ k, k < 10 → v' k = jaIf1 (jaBt w' k) (S''.1 80 0 k) (R (f + k))) → kk (nI 2) (jaU σ 20 S'')) ∧ (jvSts d e id (133 * n) m k v w = none → kk (nI 4) (jaU σ 20 S''))) →
      jc_M_goesBy_81_6 D kk (nI f) (nI id) (nI (133 * n)) (nI k) u6 u7 u8 u9 (jaU σ 20 S') := by
    intro m
    induction m with
    | zero =>
      intro k v w S' u6 u7 u8 u9 hkm hF hgw hv hp
      apply jb_M_goesBy_81_6
      simp (disch := first | omega | decide) only [jaU_eq, jaU_U, nI_add, pk_mul, jaIx_nI, vp_inT, true_and, and_true, ↓jaO0, ↓jaO1, nI_z, nI_z2, nI_z3, nI_z4, nI_z5, nI_lt', nI_le', nI_eq', jaUI_at, jaPt_eq, jaPt_ne, jaUI_o, jaUI_2, jaUL_at, jaUL_o, jaUL_1, jaB_z, jaB_1, ↓jaB_01, Classical.not_not, and_self, true_or, or_true, nI_11, Nat.reduceEqDiff, Nat.reduceAdd, Nat.reduceMul, Nat.add_zero, Nat.zero_add, Nat.mul_zero, not_true_eq_false, not_false_eq_true, false_implies, true_implies, ((congrFun (hF.s 75 (by decide) (by decide)) 0).trans hd)]
      rw [hd1]
      simp (disch := first | omega | decide) only [jaU_eq, jaU_U, nI_add, pk_mul, jaIx_nI, vp_inT, true_and, and_true, ↓jaO0, ↓jaO1, nI_z, nI_z2, nI_z3, nI_z4, nI_z5, nI_lt', nI_le', nI_eq', jaUI_at, jaPt_eq, jaPt_ne, jaUI_o, jaUI_2, jaUL_at, jaUL_o, jaUL_1, jaB_z, jaB_1, ↓jaB_01, Classical.not_not, and_self, true_or, or_true, nI_11, Nat.reduceEqDiff, Nat.reduceAdd, Nat.reduceMul, Nat.add_zero, Nat.zero_add, Nat.mul_zero, not_true_eq_false, not_false_eq_true, false_implies, true_implies]
      refine ⟨fun _ => ?_, fun q => absurd (by omega) q⟩
      exact (hp S' hF).1 v w rfl ⟨hgw, hv⟩
    | succ m ih =>
      intro k v w S' u6 u7 u8 u9 hkm hF hgw hv hp
      obtain ⟨ht0, htf, ⟨htg, htg1, htg2⟩, ⟨htn, htn'⟩, htu⟩ := hds k (by omega)
      apply jb_M_goesBy_81_6
      simp (disch := first | omega | decide) only [jaU_eq, jaU_U, nI_add, pk_mul, jaIx_nI, vp_inT, true_and, and_true, ↓jaO0, ↓jaO1, nI_z, nI_z2, nI_z3, nI_z4, nI_z5, nI_lt', nI_le', nI_eq', jaUI_at, jaPt_eq, jaPt_ne, jaUI_o, jaUI_2, jaUL_at, jaUL_o, jaUL_1, jaB_z, jaB_1, ↓jaB_01, Classical.not_not, and_self, true_or, or_true, nI_11, Nat.reduceEqDiff, Nat.reduceAdd, Nat.reduceMul, Nat.add_zero, Nat.zero_add, Nat.mul_zero, not_true_eq_false, not_false_eq_true, false_implies, true_implies, ((congrFun (hF.s 75 (by decide) (by decide)) 0).trans hd)]
      rw [hd1]
      simp (disch := first | omega | decide) only [jaU_eq, jaU_U, nI_add, pk_mul, jaIx_nI, vp_inT, true_and, and_true, ↓jaO0, ↓jaO1, nI_z, nI_z2, nI_z3, nI_z4, nI_z5, nI_lt', nI_le', nI_eq', jaUI_at, jaPt_eq, jaPt_ne, jaUI_o, jaUI_2, jaUL_at, jaUL_o, jaUL_1, jaB_z, jaB_1, ↓jaB_01, Classical.not_not, and_self, true_or, or_true, nI_11, Nat.reduceEqDiff, Nat.reduceAdd, Nat.reduceMul, Nat.add_zero, Nat.zero_add, Nat.mul_zero, not_true_eq_false, not_false_eq_true, false_implies, true_implies]
      refine ⟨fun q => absurd q (by omega), fun _ => ?_⟩
      apply sp_M_keyBy (by omega) ((congrFun (hF.s 76 (by decide) (by decide)) 0).trans he) hid htf hd2'
      obtain ⟨z, hz, hz2⟩ := jvKey_n htf hfe hd2'
      rw [jvSts_s, hz2, jaIx_nI (by omega)] at hp
      rw [hz2]
      refine jaFor (C := fun x => jc_M_goesBy_81_7 D kk (nI f) (nI id) (nI (133 * n)) (nI k) (nI (133 * n + 7 + 21 * k)) (nI z) (jvSum d e id v (133 * n + 7 + 21 * k) x) (nI x) (jaU σ 20 S')) (N := jz d (133 * n + 7 + 21 * k + 4)) ?_ (fun x hx ih7 => ?_)
      · generalize hsum : jvSum d e id v (133 * n + 7 + 21 * k) (jz d (133 * n + 7 + 21 * k + 4)) = sum at *
        apply jb_M_goesBy_81_7
        simp (disch := first | omega | decide) only [jaU_eq, jaU_U, nI_add, pk_mul, jaIx_nI, vp_inT, true_and, and_true, ↓jaO0, ↓jaO1, nI_z, nI_z2, nI_z3, nI_z4, nI_z5, nI_lt', nI_le', nI_eq', jaUI_at, jaPt_eq, jaPt_ne, jaUI_o, jaUI_2, jaUL_at, jaUL_o, jaUL_1, jaB_z, jaB_1, ↓jaB_01, Classical.not_not, and_self, true_or, or_true, nI_11, Nat.reduceEqDiff, Nat.reduceAdd, Nat.reduceMul, Nat.add_zero, Nat.zero_add, Nat.mul_zero, not_true_eq_false, not_false_eq_true, false_implies, true_implies, ((congrFun (hF.s 75 (by decide) (by decide)) 0).trans hd)]
        rw [htn]
        simp (disch := first | omega | decide) only [jaU_eq, jaU_U, nI_add, pk_mul, jaIx_nI, vp_inT, true_and, and_true, ↓jaO0, ↓jaO1, nI_z, nI_z2, nI_z3, nI_z4, nI_z5, nI_lt', nI_le', nI_eq', jaUI_at, jaPt_eq, jaPt_ne, jaUI_o, jaUI_2, jaUL_at, jaUL_o, jaUL_1, jaB_z, jaB_1, ↓jaB_01, Classical.not_not, and_self, true_or, or_true, nI_11, Nat.reduceEqDiff, Nat.reduceAdd, Nat.reduceMul, Nat.add_zero, Nat.zero_add, Nat.mul_zero, not_true_eq_false, not_false_eq_true, false_implies, true_implies]
        refine ⟨fun _ => ?_, fun q => absurd (by omega) q⟩
        refine ⟨fun q => ?_, fun q => ?_⟩
        · rw [jaIf1_f q] at hp
          refine ih (k + 1) _ _ _ _ _ _ _ (by omega) ?_ ?_ ?_ hp
          · (repeat' first | assumption | exact jaFr.rfl | refine jaFr.ui ?_ (by decide) (by decide) | refine jaFr.uf ?_ (by decide) | exact jaFr.mono (by assumption) (by decide) (by decide))
          · simp (disch := first | omega | decide) only [jaU_eq, jaU_U, nI_add, pk_mul, jaIx_nI, vp_inT, true_and, and_true, ↓jaO0, ↓jaO1, nI_z, nI_z2, nI_z3, nI_z4, nI_z5, nI_lt', nI_le', nI_eq', jaUI_at, jaPt_eq, jaPt_ne, jaUI_o, jaUI_2, jaUL_at, jaUL_o, jaUL_1, jaB_z, jaB_1, ↓jaB_01, Classical.not_not, and_self, true_or, or_true, nI_11, Nat.reduceEqDiff, Nat.reduceAdd, Nat.reduceMul, Nat.add_zero, Nat.zero_add, Nat.mul_zero, not_true_eq_false, not_false_eq_true, false_implies, true_implies, hgw]
            rfl
          · intro k' hk'
            rw [show jaBt (w ||| jaMk (nI z)) k' = (jaBt w k' ∨ k' = z) from propext (jaBt_orm (by omega) (by omega))]
            simp (disch := first | omega | decide) only [jaU_eq, jaU_U, nI_add, pk_mul, jaIx_nI, vp_inT, true_and, and_true, ↓jaO0, ↓jaO1, nI_z, nI_z2, nI_z3, nI_z4, nI_z5, nI_lt', nI_le', nI_eq', jaUI_at, jaPt_eq, jaPt_ne, jaUI_o, jaUI_2, jaUL_at, jaUL_o, jaUL_1, jaB_z, jaB_1, ↓jaB_01, Classical.not_not, and_self, true_or, or_true, nI_11, Nat.reduceEqDiff, Nat.reduceAdd, Nat.reduceMul, Nat.add_zero, Nat.zero_add, Nat.mul_zero, not_true_eq_false, not_false_eq_true, false_implies, true_implies]
            by_cases e1 : k' = z
            · rw [e1, jaPt_eq, jaIf1_t (Or.inr rfl), jaPt_eq]
            · rw [jaPt_ne e1, hv k' hk', jaPt_ne e1]
              by_cases e2 : jaBt w k'
              · rw [jaIf1_t e2, jaIf1_t (Or.inl e2)]
              · rw [jaIf1_f e2, jaIf1_f (fun x => x.elim e2 e1)]
        · rw [jaIf1_t q] at hp
          apply sp_M_valueBy_81 (by omega) ((congrFun (hF.s 81 (by decide) (by decide)) 0).trans hR) hgw (by omega) (by omega) (hv z (by omega))
          have hok : ∀ u6 u7 u8 u9, jvOk (d (133 * n + 7 + 21 * k + 3)) (v z) sum → jc_M_goesBy_81_6 D kk (nI f) (nI id) (nI (133 * n)) (nI (k + 1)) u6 u7 u8 u9 (jaU σ 20 S') := fun u6 u7 u8 u9 hq => ih (k + 1) v w S' u6 u7 u8 u9 (by omega) hF hgw hv (by rw [jaIf1_t hq] at hp; exact hp)
          have hno : ¬ jvOk (d (133 * n + 7 + 21 * k + 3)) (v z) sum → kk (nI 4) (jaU σ 20 S') := fun hq => (hp S' hF).2 (jaIf1_f hq)
          simp (disch := first | omega | decide) only [jaU_eq, jaU_U, nI_add, pk_mul, jaIx_nI, vp_inT, true_and, and_true, ↓jaO0, ↓jaO1, nI_z, nI_z2, nI_z3, nI_z4, nI_z5, nI_lt', nI_le', nI_eq', jaUI_at, jaPt_eq, jaPt_ne, jaUI_o, jaUI_2, jaUL_at, jaUL_o, jaUL_1, jaB_z, jaB_1, ↓jaB_01, Classical.not_not, and_self, true_or, or_true, nI_11, Nat.reduceEqDiff, Nat.reduceAdd, Nat.reduceMul, Nat.add_zero, Nat.zero_add, Nat.mul_zero, not_true_eq_false, not_false_eq_true, false_implies, true_implies, ((congrFun (hF.s 75 (by decide) (by decide)) 0).trans hd)]
          refine ⟨fun q2 => ⟨fun q3 => ⟨fun q4 => hok _ _ _ _ (Or.inr (Or.inr ⟨q2, q3, q4⟩)), fun q4 => hno (fun x => ?_)⟩, fun q3 => ⟨fun q4 => hno (fun x => ?_), fun q4 => hok _ _ _ _ (Or.inr (Or.inl ⟨q3, q4⟩))⟩⟩, fun q2 => ⟨fun q4 => hno (fun x => ?_), fun q4 => hok _ _ _ _ (Or.inl ⟨q2, q4⟩)⟩⟩
          · rcases x with x | x | x
            · exact q2 x.1
            · exact q3 x.1
            · exact q4 x.2.2
          · rcases x with x | x | x
            · exact q2 x.1
            · exact q4 x.2
            · exact x.2.1 q3
          · rcases x with x | x | x
            · exact x.2 q4
            · rw [x.1] at q2
              exact absurd q2 (by decide)
            · exact x.1 q2
      · apply jb_M_goesBy_81_7
        simp (disch := first | omega | decide) only [jaU_eq, jaU_U, nI_add, pk_mul, jaIx_nI, vp_inT, true_and, and_true, ↓jaO0, ↓jaO1, nI_z, nI_z2, nI_z3, nI_z4, nI_z5, nI_lt', nI_le', nI_eq', jaUI_at, jaPt_eq, jaPt_ne, jaUI_o, jaUI_2, jaUL_at, jaUL_o, jaUL_1, jaB_z, jaB_1, ↓jaB_01, Classical.not_not, and_self, true_or, or_true, nI_11, Nat.reduceEqDiff, Nat.reduceAdd, Nat.reduceMul, Nat.add_zero, Nat.zero_add, Nat.mul_zero, not_true_eq_false, not_false_eq_true, false_implies, true_implies, ((congrFun (hF.s 75 (by decide) (by decide)) 0).trans hd)]
        rw [htn]
        simp (disch := first | omega | decide) only [jaU_eq, jaU_U, nI_add, pk_mul, jaIx_nI, vp_inT, true_and, and_true, ↓jaO0, ↓jaO1, nI_z, nI_z2, nI_z3, nI_z4, nI_z5, nI_lt', nI_le', nI_eq', jaUI_at, jaPt_eq, jaPt_ne, jaUI_o, jaUI_2, jaUL_at, jaUL_o, jaUL_1, jaB_z, jaB_1, ↓jaB_01, Classical.not_not, and_self, true_or, or_true, nI_11, Nat.reduceEqDiff, Nat.reduceAdd, Nat.reduceMul, Nat.add_zero, Nat.zero_add, Nat.mul_zero, not_true_eq_false, not_false_eq_true, false_implies, true_implies]
        refine ⟨fun q => absurd q (by omega), fun _ => ?_⟩
        apply sp_M_termBy_81 (by omega) ((congrFun (hF.s 75 (by decide) (by decide)) 0).trans hd) ((congrFun (hF.s 76 (by decide) (by decide)) 0).trans he) ((congrFun (hF.s 81 (by decide) (by decide)) 0).trans hR) hgw (by omega) hid hK' hd2' (by omega) hv (htu x hx) hfe
        exact ih7
  have L1 : ∀ m j S' u6, j + m = jz d (133 * n + 2) → (∀ i, i < j → jvMod (R (f + jz d (133 * n + 3 + i))) (nI K) = e (9 * id + 5 + i)) → jaFr [80] [29] S S' → S'.1 70 0 29 = nI 0 → jc_M_goesBy_81_1 D kk (nI f) (nI id) (nI (133 * n)) (nI j) u6 (jaU σ 20 S') := by
    intro m
    induction m with
    | zero =>
      intro j S' u6 hj hall hF hg
      apply jb_M_goesBy_81_1
      simp (disch := first | omega | decide) only [jaU_eq, jaU_U, nI_add, pk_mul, jaIx_nI, vp_inT, true_and, and_true, ↓jaO0, ↓jaO1, nI_z, nI_z2, nI_z3, nI_z4, nI_z5, nI_lt', nI_le', nI_eq', jaUI_at, jaPt_eq, jaPt_ne, jaUI_o, jaUI_2, jaUL_at, jaUL_o, jaUL_1, jaB_z, jaB_1, ↓jaB_01, Classical.not_not, and_self, true_or, or_true, nI_11, Nat.reduceEqDiff, Nat.reduceAdd, Nat.reduceMul, Nat.add_zero, Nat.zero_add, Nat.mul_zero, not_true_eq_false, not_false_eq_true, false_implies, true_implies, ((congrFun (hF.s 75 (by decide) (by decide)) 0).trans hd)]
      rw [hd2]
      simp (disch := first | omega | decide) only [jaU_eq, jaU_U, nI_add, pk_mul, jaIx_nI, vp_inT, true_and, and_true, ↓jaO0, ↓jaO1, nI_z, nI_z2, nI_z3, nI_z4, nI_z5, nI_lt', nI_le', nI_eq', jaUI_at, jaPt_eq, jaPt_ne, jaUI_o, jaUI_2, jaUL_at, jaUL_o, jaUL_1, jaB_z, jaB_1, ↓jaB_01, Classical.not_not, and_self, true_or, or_true, nI_11, Nat.reduceEqDiff, Nat.reduceAdd, Nat.reduceMul, Nat.add_zero, Nat.zero_add, Nat.mul_zero, not_true_eq_false, not_false_eq_true, false_implies, true_implies]
      refine ⟨fun _ => ?_, fun q => absurd (by omega) q⟩
      have hna : ¬ jvAg (fun k => R (f + k)) d e (nI K) id (133 * n) (jz d (133 * n + 2)) := fun ⟨i, hi, hi2⟩ => hi2 (hall i (by omega))
      rw [jaIf1_f hna] at h
      refine L6 (jz d (133 * n + 1)) 0 (fun k => R (f + k)) (nI 0) S' _ _ _ _ (by omega) hF hg (fun k hk => ?_) (fun S'' hF'' => ⟨fun v' w' hq hp => ?_, fun hq => ?_⟩)
      · rw [jaIf1_f (jaBt_0 (by omega))]
      · rw [hq] at h
        exact h S'' hF'' (fun v w hvw => by cases hvw; exact hp)
      · rw [hq] at h
        exact h S'' hF'' (fun v w hvw => absurd (congrArg Prod.fst hvw) (by show ¬ nI 4 = nI 2; decide))
    | succ m ih =>
      intro j S' u6 hj hall hF hg
      obtain ⟨ha1, ha2⟩ := hda j (by omega)
      apply jb_M_goesBy_81_1
      simp (disch := first | omega | decide) only [jaU_eq, jaU_U, nI_add, pk_mul, jaIx_nI, vp_inT, true_and, and_true, ↓jaO0, ↓jaO1, nI_z, nI_z2, nI_z3, nI_z4, nI_z5, nI_lt', nI_le', nI_eq', jaUI_at, jaPt_eq, jaPt_ne, jaUI_o, jaUI_2, jaUL_at, jaUL_o, jaUL_1, jaB_z, jaB_1, ↓jaB_01, Classical.not_not, and_self, true_or, or_true, nI_11, Nat.reduceEqDiff, Nat.reduceAdd, Nat.reduceMul, Nat.add_zero, Nat.zero_add, Nat.mul_zero, not_true_eq_false, not_false_eq_true, false_implies, true_implies, ((congrFun (hF.s 75 (by decide) (by decide)) 0).trans hd), ((congrFun (hF.s 76 (by decide) (by decide)) 0).trans he), ((congrFun (hF.s 72 (by decide) (by decide)) 0).trans hs), ((congrFun (hF.s 81 (by decide) (by decide)) 0).trans hR)]
      rw [hd2, ha1, hK]
      simp (disch := first | omega | decide) only [jaU_eq, jaU_U, nI_add, pk_mul, jaIx_nI, vp_inT, true_and, and_true, ↓jaO0, ↓jaO1, nI_z, nI_z2, nI_z3, nI_z4, nI_z5, nI_lt', nI_le', nI_eq', jaUI_at, jaPt_eq, jaPt_ne, jaUI_o, jaUI_2, jaUL_at, jaUL_o, jaUL_1, jaB_z, jaB_1, ↓jaB_01, Classical.not_not, and_self, true_or, or_true, nI_11, Nat.reduceEqDiff, Nat.reduceAdd, Nat.reduceMul, Nat.add_zero, Nat.zero_add, Nat.mul_zero, not_true_eq_false, not_false_eq_true, false_implies, true_implies]
      refine ⟨fun q => absurd q (by omega), fun _ => ?_⟩
      have hgo2 : ∀ u6, jvMod (R (f + jz d (133 * n + 3 + j))) (nI K) = e (9 * id + 5 + j) → jc_M_goesBy_81_1 D kk (nI f) (nI id) (nI (133 * n)) (nI (j + 1)) u6 (jaU σ 20 S') := fun u6 hq => ih (j + 1) S' u6 (by omega) (fun i hi => if e1 : i = j then (by rw [e1]; exact hq) else hall i (by omega)) hF hg
      have hno : ¬ jvMod (R (f + jz d (133 * n + 3 + j))) (nI K) = e (9 * id + 5 + j) → kk (nI 3) (jaU σ 20 S') := fun hq => by
        have hag : jvAg (fun k => R (f + k)) d e (nI K) id (133 * n) (jz d (133 * n + 2)) := ⟨j, by omega, hq⟩
        rw [jaIf1_t hag] at h
        exact h S' hF (fun v w hvw => absurd (congrArg Prod.fst hvw) (by show ¬ nI 3 = nI 2; decide))
      refine ⟨by omega, fun q => ?_, fun q => ?_⟩
      · rw [jvMod, jaIf1_t q] at hgo2 hno
        exact ⟨fun q2 => hgo2 _ q2, fun q2 => hno q2⟩
      · rw [jvMod, jaIf1_f q] at hgo2 hno
        exact ⟨fun q2 => hgo2 _ q2, fun q2 => hno q2⟩
  refine L1 (jz d (133 * n + 2)) 0 _ _ (by omega) (fun i hi => absurd hi (by omega)) ?_ ?_
  · (repeat' first | assumption | exact jaFr.rfl | refine jaFr.ui ?_ (by decide) (by decide) | refine jaFr.uf ?_ (by decide) | exact jaFr.mono (by assumption) (by decide) (by decide))
  · simp (disch := first | omega | decide) only [jaU_eq, jaU_U, nI_add, pk_mul, jaIx_nI, vp_inT, true_and, and_true, ↓jaO0, ↓jaO1, nI_z, nI_z2, nI_z3, nI_z4, nI_z5, nI_lt', nI_le', nI_eq', jaUI_at, jaPt_eq, jaPt_ne, jaUI_o, jaUI_2, jaUL_at, jaUL_o, jaUL_1, jaB_z, jaB_1, ↓jaB_01, Classical.not_not, and_self, true_or, or_true, nI_11, Nat.reduceEqDiff, Nat.reduceAdd, Nat.reduceMul, Nat.add_zero, Nat.zero_add, Nat.mul_zero, not_true_eq_false, not_false_eq_true, false_implies, true_implies]
end
