section
/-! the reference: what comes -/
theorem sp_M_atKey {D : Nat} (hD : 1 ≤ D) {kk : Int32 → jaT → Prop} {σ : jaT} {S : jaS} {s : jvA} (hs : S.1 72 0 = s) {k : Nat} (hk : k < 10) (h1 : ¬ s 1 = 0) (h : kk (jvMod (s (145 + k)) (s 1)) (jaU σ 20 S)) : jaDe D jy_M_atKey [jaMo, .inl (nI k)] (jaU σ 20 S) (jaKi kk) := by
  obtain ⟨D, rfl, hD⟩ := jaSuc hD
  apply js_M_atKey
  simp (disch := first | omega | decide) only [jaU_eq, jaU_U, nI_add, pk_mul, jaIx_nI, vp_inT, true_and, and_true, ↓jaO0, ↓jaO1, nI_z, nI_z2, nI_z3, nI_z4, nI_z5, nI_lt', nI_le', nI_eq', jaUI_at, jaPt_eq, jaPt_ne, jaUI_o, jaUI_2, jaUL_at, jaUL_o, jaUL_1, jaB_z, jaB_1, ↓jaB_01, Classical.not_not, and_self, true_or, or_true, nI_11, Nat.reduceEqDiff, Nat.reduceAdd, Nat.reduceMul, Nat.add_zero, Nat.zero_add, Nat.mul_zero, not_true_eq_false, not_false_eq_true, false_implies, true_implies, hs]
  refine ⟨h1, fun q => ?_, fun q => ?_⟩
  · rwa [jvMod, jaIf1_t q] at h
  · rwa [jvMod, jaIf1_f q] at h
theorem sp_M_keyBy {D : Nat} (hD : 1 ≤ D) {kk : Int32 → jaT → Prop} {σ : jaT} {S : jaS} {d e : jvA} (he : S.1 76 0 = e) {id p k a : Nat} (hi : id < 64) (hf : jWf k a d p) (ha : a ≤ 4) (h : kk (jvKey d e id p) (jaU σ 20 S)) : jaDe D jy_M_keyBy [jaMo, .inl (nI id), .inl (d p), .inl (d (p + 1))] (jaU σ 20 S) (jaKi kk) := by
  obtain ⟨D, rfl, hD⟩ := jaSuc hD
  apply js_M_keyBy
  obtain ⟨_, _, h2 | ⟨h2, h3⟩⟩ := hf
  · rw [jvKey, h2, jaIf1_f (by decide)] at h
    rw [h2]
    exact ⟨fun q => absurd q (by decide), fun _ => h⟩
  · rw [jvKey, h2, jaIf1_t (nI_pos' (by omega)), jaIx_nI (by omega)] at h
    rw [h2]
    simp (disch := first | omega | decide) only [jaU_eq, jaU_U, nI_add, pk_mul, jaIx_nI, vp_inT, true_and, and_true, ↓jaO0, ↓jaO1, nI_z, nI_z2, nI_z3, nI_z4, nI_z5, nI_lt', nI_le', nI_eq', jaUI_at, jaPt_eq, jaPt_ne, jaUI_o, jaUI_2, jaUL_at, jaUL_o, jaUL_1, jaB_z, jaB_1, ↓jaB_01, Classical.not_not, and_self, true_or, or_true, nI_11, Nat.reduceEqDiff, Nat.reduceAdd, Nat.reduceMul, Nat.add_zero, Nat.zero_add, Nat.mul_zero, not_true_eq_false, not_false_eq_true, false_implies, true_implies, he]
    exact h
theorem jvBits_8 : ∀ m, m < 8 → 0 < m → ∃ m', m' < m ∧ nI m &&& (nI m - nI 1) = nI m'
  | 1, _, _ => ⟨0, by decide, by decide⟩
  | 2, _, _ => ⟨0, by decide, by decide⟩
  | 3, _, _ => ⟨2, by decide, by decide⟩
  | 4, _, _ => ⟨0, by decide, by decide⟩
  | 5, _, _ => ⟨4, by decide, by decide⟩
  | 6, _, _ => ⟨4, by decide, by decide⟩
  | 7, _, _ => ⟨6, by decide, by decide⟩
  | n + 8, h, _ => absurd h (by omega)
theorem sp_M_bits {D : Nat} (hD : 1 ≤ D) {kk : Int32 → jaT → Prop} {σ : jaT} {m : Nat} (hm : m < 8) (h : kk (nI (jvBits 32 (nI m))) σ) : jaDe D jy_M_bits [.inl (nI m)] σ (jaKi kk) := by
  obtain ⟨D, rfl, hD⟩ := jaSuc hD
  apply js_M_bits
  have L : ∀ f m n, m < 8 → m ≤ f → kk (nI (n + jvBits f (nI m))) σ → ∀ x0, jc_M_bits_1 D kk x0 (nI n) (nI m) σ := by
    intro f
    induction f with
    | zero =>
      intro m n h8 hf hk x0
      apply jb_M_bits_1
      rw [show m = 0 by omega] at hk ⊢
      refine ⟨fun _ => ?_, fun q => absurd nI_0 q⟩
      exact hk
    | succ f ih =>
      intro m n h8 hf hk x0
      apply jb_M_bits_1
      by_cases e : m = 0
      · rw [e] at hk ⊢
        refine ⟨fun _ => ?_, fun q => absurd nI_0 q⟩
        rw [jvBits, if_pos nI_0] at hk
        exact hk
      · obtain ⟨m', h1, h2⟩ := jvBits_8 m h8 (by omega)
        rw [jvBits, if_neg (nI_ne0 (by omega) (by omega)), h2] at hk
        rw [h2, nI_add]
        refine ⟨fun q => absurd q (nI_ne0 (by omega) (by omega)), fun _ => ih m' (n + 1) (by omega) (by omega) ?_ x0⟩
        rw [show n + 1 + jvBits f (nI m') = n + (jvBits f (nI m') + 1) by omega]
        exact hk
  refine L 32 m 0 hm (by omega) ?_ _
  rw [Nat.zero_add]
  exact h
theorem jaMk_8 : ∀ m q, m < 8 → q < 3 → ∃ m', m' < 8 ∧ nI m ||| jaMk (nI q) = nI m' := by
  intro m q hm hq
  have key : ∀ m : Fin 8, ∀ q : Fin 3, ∃ m' : Fin 8, nI m.1 ||| jaMk (nI q.1) = nI m'.1 := by decide
  obtain ⟨m', h⟩ := key ⟨m, hm⟩ ⟨q, hq⟩
  exact ⟨m'.1, m'.2, h⟩
theorem jaOr0 (x : Int32) : x ||| nI 0 = x := by
  rw [nI_0]
  exact Int32.or_zero
theorem jvWh_8 {s : jvA} (hw : jWw s) (x : Int32) : ∀ n, n ≤ jz s 1 → ∃ m, m < 8 ∧ jvWh s x n = nI m
  | 0, _ => ⟨0, by decide, rfl⟩
  | n + 1, hn => by
    obtain ⟨m, h1, h2⟩ := jvWh_8 hw x n (by omega)
    have e : jvWh s x (n + 1) = jaIf1 (jaBt x n) (jvWh s x n ||| jaMk (s (5 + n))) (jvWh s x n ||| nI 0) := rfl
    by_cases hb : jaBt x n
    · rw [e, jaIf1_t hb, h2]
      obtain ⟨h3, h4⟩ := hw.2.2.2.2.2.1 n (by omega)
      have h5 := hw.1.2
      rw [h3]
      exact jaMk_8 m _ h1 (by omega)
    · rw [e, jaIf1_f hb, h2, jaOr0]
      exact ⟨m, h1, rfl⟩
set_option maxHeartbeats 1000000 in
theorem sp_M_comes {D : Nat} (hD : 2 ≤ D) {kk : jaT → Prop} {σ : jaT} {S : jaS} {s d e : jvA} (hs : S.1 72 0 = s) (hd : S.1 75 0 = d) (he : S.1 76 0 = e) {n : Nat} (hw : jWw s) (hn : n < 24) (hdn : jWn (jz s 1) d n)
    (h33 : s 33 = nI (jz s 33)) (h64 : jz s 33 < 64) (h35 : s 35 = nI (jz s 35)) (h35' : jz s 35 < 64)
    (h : ∀ S', S'.1 72 0 = jvComeS s → S'.1 76 0 = jvComeE s d e n → jaFr [72, 76] [] S S' → kk (jaU σ 20 S')) :
    jaDe D jy_M_comes [jaMo, .inl (nI n)] (jaU σ 20 S) (jaKv kk) := by
  obtain ⟨D, rfl, hD⟩ := jaSuc hD
  obtain ⟨hk1, ⟨hd0, hd0'⟩, ⟨hd1, hd1'⟩, ⟨hd2, hd2'⟩, hda, hds⟩ := hdn
  obtain ⟨hw1, hw1'⟩ := hw.2.1
  apply js_M_comes
  simp (disch := first | omega | decide) only [jaU_eq, jaU_U, nI_add, pk_mul, jaIx_nI, vp_inT, true_and, and_true, ↓jaO0, ↓jaO1, nI_z, nI_z2, nI_z3, nI_z4, nI_z5, nI_lt', nI_le', nI_eq', jaUI_at, jaPt_eq, jaPt_ne, jaUI_o, jaUI_2, jaUL_at, jaUL_o, jaUL_1, jaB_z, jaB_1, ↓jaB_01, Classical.not_not, and_self, true_or, or_true, nI_11, Nat.reduceEqDiff, Nat.reduceAdd, Nat.reduceMul, Nat.add_zero, Nat.zero_add, Nat.mul_zero, not_true_eq_false, not_false_eq_true, false_implies, true_implies, hs]
  rw [h33]
  simp (disch := first | omega | decide) only [jaU_eq, jaU_U, nI_add, pk_mul, jaIx_nI, vp_inT, true_and, and_true, ↓jaO0, ↓jaO1, nI_z, nI_z2, nI_z3, nI_z4, nI_z5, nI_lt', nI_le', nI_eq', jaUI_at, jaPt_eq, jaPt_ne, jaUI_o, jaUI_2, jaUL_at, jaUL_o, jaUL_1, jaB_z, jaB_1, ↓jaB_01, Classical.not_not, and_self, true_or, or_true, nI_11, Nat.reduceEqDiff, Nat.reduceAdd, Nat.reduceMul, Nat.add_zero, Nat.zero_add, Nat.mul_zero, not_true_eq_false, not_false_eq_true, false_implies, true_implies]
  generalize hid : jz s 33 = id at *
  refine jaFor (C := fun j => ∀ S', S'.1 72 0 = s → S'.1 75 0 = d → S'.1 76 0 = jvFore s d (133 * n) (9 * id + 5) e j → jaFr [72, 76] [] S S' → jc_M_comes_1 D kk (nI n) (nI id) (nI (9 * id)) (nI (133 * n)) (jvRa d (133 * n) j) (nI 0) (nI j) (jaU σ 20 S')) (N := jz d (133 * n + 2)) ?_ (fun j hj ih => ?_) S hs hd he jaFr.rfl
  · intro S1 hs1 hd1' he1 hf
    apply jb_M_comes_1
    simp (disch := first | omega | decide) only [jaU_eq, jaU_U, nI_add, pk_mul, jaIx_nI, vp_inT, true_and, and_true, ↓jaO0, ↓jaO1, nI_z, nI_z2, nI_z3, nI_z4, nI_z5, nI_lt', nI_le', nI_eq', jaUI_at, jaPt_eq, jaPt_ne, jaUI_o, jaUI_2, jaUL_at, jaUL_o, jaUL_1, jaB_z, jaB_1, ↓jaB_01, Classical.not_not, and_self, true_or, or_true, nI_11, Nat.reduceEqDiff, Nat.reduceAdd, Nat.reduceMul, Nat.add_zero, Nat.zero_add, Nat.mul_zero, not_true_eq_false, not_false_eq_true, false_implies, true_implies, hd1']
    rw [hd2]
    simp (disch := first | omega | decide) only [jaU_eq, jaU_U, nI_add, pk_mul, jaIx_nI, vp_inT, true_and, and_true, ↓jaO0, ↓jaO1, nI_z, nI_z2, nI_z3, nI_z4, nI_z5, nI_lt', nI_le', nI_eq', jaUI_at, jaPt_eq, jaPt_ne, jaUI_o, jaUI_2, jaUL_at, jaUL_o, jaUL_1, jaB_z, jaB_1, ↓jaB_01, Classical.not_not, and_self, true_or, or_true, nI_11, Nat.reduceEqDiff, Nat.reduceAdd, Nat.reduceMul, Nat.add_zero, Nat.zero_add, Nat.mul_zero, not_true_eq_false, not_false_eq_true, false_implies, true_implies]
    refine ⟨fun _ => ?_, fun q => absurd (by omega) q⟩
    generalize hE : jvFore s d (133 * n) (9 * id + 5) e (jz d (133 * n + 2)) = e1 at he1
    refine jaFor (C := fun k => ∀ u8 u9 u10, jc_M_comes_3 D kk (nI n) (nI id) (nI (9 * id)) (nI (133 * n)) (jvRs d e1 id (133 * n) k) (jvWs d e1 id (133 * n) k) (nI k) u8 u9 u10 (jaU σ 20 S1)) (N := jz d (133 * n + 1)) ?_ (fun k hk ih => ?_) none none none
    · intro u8 u9 u10
      apply jb_M_comes_3
      simp (disch := first | omega | decide) only [jaU_eq, jaU_U, nI_add, pk_mul, jaIx_nI, vp_inT, true_and, and_true, ↓jaO0, ↓jaO1, nI_z, nI_z2, nI_z3, nI_z4, nI_z5, nI_lt', nI_le', nI_eq', jaUI_at, jaPt_eq, jaPt_ne, jaUI_o, jaUI_2, jaUL_at, jaUL_o, jaUL_1, jaB_z, jaB_1, ↓jaB_01, Classical.not_not, and_self, true_or, or_true, nI_11, Nat.reduceEqDiff, Nat.reduceAdd, Nat.reduceMul, Nat.add_zero, Nat.zero_add, Nat.mul_zero, not_true_eq_false, not_false_eq_true, false_implies, true_implies, hd1']
      rw [hd1]
      simp (disch := first | omega | decide) only [jaU_eq, jaU_U, nI_add, pk_mul, jaIx_nI, vp_inT, true_and, and_true, ↓jaO0, ↓jaO1, nI_z, nI_z2, nI_z3, nI_z4, nI_z5, nI_lt', nI_le', nI_eq', jaUI_at, jaPt_eq, jaPt_ne, jaUI_o, jaUI_2, jaUL_at, jaUL_o, jaUL_1, jaB_z, jaB_1, ↓jaB_01, Classical.not_not, and_self, true_or, or_true, nI_11, Nat.reduceEqDiff, Nat.reduceAdd, Nat.reduceMul, Nat.add_zero, Nat.zero_add, Nat.mul_zero, not_true_eq_false, not_false_eq_true, false_implies, true_implies]
      refine ⟨fun _ => ?_, fun q => absurd (by omega) q⟩
      generalize hR : jvRs d e1 id (133 * n) (jz d (133 * n + 1)) = r at *
      generalize hW : jvWs d e1 id (133 * n) (jz d (133 * n + 1)) = w at *
      refine jaFor (C := fun k => jc_M_comes_10 D kk (nI n) (nI id) (nI (9 * id)) (nI (133 * n)) r w (jvWh s (r ||| w) k) (nI k) u9 u10 (jaU σ 20 S1)) (N := jz s 1) ?_ (fun k hk ih => ?_)
      · apply jb_M_comes_10
        simp (disch := first | omega | decide) only [jaU_eq, jaU_U, nI_add, pk_mul, jaIx_nI, vp_inT, true_and, and_true, ↓jaO0, ↓jaO1, nI_z, nI_z2, nI_z3, nI_z4, nI_z5, nI_lt', nI_le', nI_eq', jaUI_at, jaPt_eq, jaPt_ne, jaUI_o, jaUI_2, jaUL_at, jaUL_o, jaUL_1, jaB_z, jaB_1, ↓jaB_01, Classical.not_not, and_self, true_or, or_true, nI_11, Nat.reduceEqDiff, Nat.reduceAdd, Nat.reduceMul, Nat.add_zero, Nat.zero_add, Nat.mul_zero, not_true_eq_false, not_false_eq_true, false_implies, true_implies, hs1]
        rw [hw1]
        simp (disch := first | omega | decide) only [jaU_eq, jaU_U, nI_add, pk_mul, jaIx_nI, vp_inT, true_and, and_true, ↓jaO0, ↓jaO1, nI_z, nI_z2, nI_z3, nI_z4, nI_z5, nI_lt', nI_le', nI_eq', jaUI_at, jaPt_eq, jaPt_ne, jaUI_o, jaUI_2, jaUL_at, jaUL_o, jaUL_1, jaB_z, jaB_1, ↓jaB_01, Classical.not_not, and_self, true_or, or_true, nI_11, Nat.reduceEqDiff, Nat.reduceAdd, Nat.reduceMul, Nat.add_zero, Nat.zero_add, Nat.mul_zero, not_true_eq_false, not_false_eq_true, false_implies, true_implies]
        refine ⟨fun _ => ?_, fun q => absurd (by omega) q⟩
        obtain ⟨m, hm1, hm2⟩ := jvWh_8 hw (r ||| w) _ (Nat.le_refl _)
        rw [hm2]
        apply sp_M_bits (by omega) hm1
        have hb : jvBits 32 (nI m) < 2147483648 := by
          have : ∀ m : Fin 8, jvBits 32 (nI m.1) < 2147483648 := by decide
          exact this ⟨m, hm1⟩
        simp (disch := first | omega | decide) only [jaU_eq, jaU_U, nI_add, pk_mul, jaIx_nI, vp_inT, true_and, and_true, ↓jaO0, ↓jaO1, nI_z, nI_z2, nI_z3, nI_z4, nI_z5, nI_lt', nI_le', nI_eq', jaUI_at, jaPt_eq, jaPt_ne, jaUI_o, jaUI_2, jaUL_at, jaUL_o, jaUL_1, jaB_z, jaB_1, ↓jaB_01, Classical.not_not, and_self, true_or, or_true, nI_11, Nat.reduceEqDiff, Nat.reduceAdd, Nat.reduceMul, Nat.add_zero, Nat.zero_add, Nat.mul_zero, not_true_eq_false, not_false_eq_true, false_implies, true_implies, hs1, hd1', h33, h35, jaPt_ne]
        refine ⟨fun q => h _ ?_ ?_ ?_, fun q => h _ ?_ ?_ ?_⟩
        · simp (disch := first | omega | decide) only [jaU_eq, jaU_U, nI_add, pk_mul, jaIx_nI, vp_inT, true_and, and_true, ↓jaO0, ↓jaO1, nI_z, nI_z2, nI_z3, nI_z4, nI_z5, nI_lt', nI_le', nI_eq', jaUI_at, jaPt_eq, jaPt_ne, jaUI_o, jaUI_2, jaUL_at, jaUL_o, jaUL_1, jaB_z, jaB_1, ↓jaB_01, Classical.not_not, and_self, true_or, or_true, nI_11, Nat.reduceEqDiff, Nat.reduceAdd, Nat.reduceMul, Nat.add_zero, Nat.zero_add, Nat.mul_zero, not_true_eq_false, not_false_eq_true, false_implies, true_implies, hs1, jvComeS, hid, h33, h35, jaPt_ne]
        · simp (disch := first | omega | decide) only [jaU_eq, jaU_U, nI_add, pk_mul, jaIx_nI, vp_inT, true_and, and_true, ↓jaO0, ↓jaO1, nI_z, nI_z2, nI_z3, nI_z4, nI_z5, nI_lt', nI_le', nI_eq', jaUI_at, jaPt_eq, jaPt_ne, jaUI_o, jaUI_2, jaUL_at, jaUL_o, jaUL_1, jaB_z, jaB_1, ↓jaB_01, Classical.not_not, and_self, true_or, or_true, nI_11, Nat.reduceEqDiff, Nat.reduceAdd, Nat.reduceMul, Nat.add_zero, Nat.zero_add, Nat.mul_zero, not_true_eq_false, not_false_eq_true, false_implies, true_implies, he1, jvComeE, hid, hE, hR, hW, hm2]
          rw [jaIf1_f (by omega)]
        · (repeat' first | assumption | exact jaFr.rfl | refine jaFr.ui ?_ (by decide) (by decide) | refine jaFr.uf ?_ (by decide) | exact jaFr.mono (by assumption) (by decide) (by decide))
        · simp (disch := first | omega | decide) only [jaU_eq, jaU_U, nI_add, pk_mul, jaIx_nI, vp_inT, true_and, and_true, ↓jaO0, ↓jaO1, nI_z, nI_z2, nI_z3, nI_z4, nI_z5, nI_lt', nI_le', nI_eq', jaUI_at, jaPt_eq, jaPt_ne, jaUI_o, jaUI_2, jaUL_at, jaUL_o, jaUL_1, jaB_z, jaB_1, ↓jaB_01, Classical.not_not, and_self, true_or, or_true, nI_11, Nat.reduceEqDiff, Nat.reduceAdd, Nat.reduceMul, Nat.add_zero, Nat.zero_add, Nat.mul_zero, not_true_eq_false, not_false_eq_true, false_implies, true_implies, hs1, jvComeS, hid, h33, h35, jaPt_ne]
        · simp (disch := first | omega | decide) only [jaU_eq, jaU_U, nI_add, pk_mul, jaIx_nI, vp_inT, true_and, and_true, ↓jaO0, ↓jaO1, nI_z, nI_z2, nI_z3, nI_z4, nI_z5, nI_lt', nI_le', nI_eq', jaUI_at, jaPt_eq, jaPt_ne, jaUI_o, jaUI_2, jaUL_at, jaUL_o, jaUL_1, jaB_z, jaB_1, ↓jaB_01, Classical.not_not, and_self, true_or, or_true, nI_11, Nat.reduceEqDiff, Nat.reduceAdd, Nat.reduceMul, Nat.add_zero, Nat.zero_add, Nat.mul_zero, not_true_eq_false, not_false_eq_true, false_implies, true_implies, he1, jvComeE, hid, hE, hR, hW, hm2]
          rw [jaIf1_t (by omega)]
        · (repeat' first | assumption | exact jaFr.rfl | refine jaFr.ui ?_ (by decide) (by decide) | refine jaFr.uf ?_ (by decide) | exact jaFr.mono (by assumption) (by decide) (by decide))
      · apply jb_M_comes_10
        simp (disch := first | omega | decide) only [jaU_eq, jaU_U, nI_add, pk_mul, jaIx_nI, vp_inT, true_and, and_true, ↓jaO0, ↓jaO1, nI_z, nI_z2, nI_z3, nI_z4, nI_z5, nI_lt', nI_le', nI_eq', jaUI_at, jaPt_eq, jaPt_ne, jaUI_o, jaUI_2, jaUL_at, jaUL_o, jaUL_1, jaB_z, jaB_1, ↓jaB_01, Classical.not_not, and_self, true_or, or_true, nI_11, Nat.reduceEqDiff, Nat.reduceAdd, Nat.reduceMul, Nat.add_zero, Nat.zero_add, Nat.mul_zero, not_true_eq_false, not_false_eq_true, false_implies, true_implies, hs1]
        rw [hw1]
        simp (disch := first | omega | decide) only [jaU_eq, jaU_U, nI_add, pk_mul, jaIx_nI, vp_inT, true_and, and_true, ↓jaO0, ↓jaO1, nI_z, nI_z2, nI_z3, nI_z4, nI_z5, nI_lt', nI_le', nI_eq', jaUI_at, jaPt_eq, jaPt_ne, jaUI_o, jaUI_2, jaUL_at, jaUL_o, jaUL_1, jaB_z, jaB_1, ↓jaB_01, Classical.not_not, and_self, true_or, or_true, nI_11, Nat.reduceEqDiff, Nat.reduceAdd, Nat.reduceMul, Nat.add_zero, Nat.zero_add, Nat.mul_zero, not_true_eq_false, not_false_eq_true, false_implies, true_implies]
        refine ⟨fun q => absurd q (by omega), fun _ => ?_⟩
        apply sp_M_bitOf (by omega)
        simp (disch := first | omega | decide) only [jaU_eq, jaU_U, nI_add, pk_mul, jaIx_nI, vp_inT, true_and, and_true, ↓jaO0, ↓jaO1, nI_z, nI_z2, nI_z3, nI_z4, nI_z5, nI_lt', nI_le', nI_eq', jaUI_at, jaPt_eq, jaPt_ne, jaUI_o, jaUI_2, jaUL_at, jaUL_o, jaUL_1, jaB_z, jaB_1, ↓jaB_01, Classical.not_not, and_self, true_or, or_true, nI_11, Nat.reduceEqDiff, Nat.reduceAdd, Nat.reduceMul, Nat.add_zero, Nat.zero_add, Nat.mul_zero, not_true_eq_false, not_false_eq_true, false_implies, true_implies, hs1]
        refine ⟨fun q => ?_, fun q => ?_⟩
        · rw [jvWh, jaRec, jaIf1_f q] at ih
          exact ih
        · rw [jvWh, jaRec, jaIf1_t q] at ih
          exact ih
    · intro u8 u9 u10
      obtain ⟨ht0, htf, ht3, ⟨ht4, ht4'⟩, htu⟩ := hds k hk
      have hk6 : k < 6 := by omega
      apply jb_M_comes_3
      simp (disch := first | omega | decide) only [jaU_eq, jaU_U, nI_add, pk_mul, jaIx_nI, vp_inT, true_and, and_true, ↓jaO0, ↓jaO1, nI_z, nI_z2, nI_z3, nI_z4, nI_z5, nI_lt', nI_le', nI_eq', jaUI_at, jaPt_eq, jaPt_ne, jaUI_o, jaUI_2, jaUL_at, jaUL_o, jaUL_1, jaB_z, jaB_1, ↓jaB_01, Classical.not_not, and_self, true_or, or_true, nI_11, Nat.reduceEqDiff, Nat.reduceAdd, Nat.reduceMul, Nat.add_zero, Nat.zero_add, Nat.mul_zero, not_true_eq_false, not_false_eq_true, false_implies, true_implies, hd1']
      rw [hd1]
      simp (disch := first | omega | decide) only [jaU_eq, jaU_U, nI_add, pk_mul, jaIx_nI, vp_inT, true_and, and_true, ↓jaO0, ↓jaO1, nI_z, nI_z2, nI_z3, nI_z4, nI_z5, nI_lt', nI_le', nI_eq', jaUI_at, jaPt_eq, jaPt_ne, jaUI_o, jaUI_2, jaUL_at, jaUL_o, jaUL_1, jaB_z, jaB_1, ↓jaB_01, Classical.not_not, and_self, true_or, or_true, nI_11, Nat.reduceEqDiff, Nat.reduceAdd, Nat.reduceMul, Nat.add_zero, Nat.zero_add, Nat.mul_zero, not_true_eq_false, not_false_eq_true, false_implies, true_implies]
      refine ⟨fun q => absurd q (by omega), fun _ => ?_⟩
      apply sp_M_keyBy (by omega) he1 h64 htf hd2'
      simp (disch := first | omega | decide) only [jaU_eq, jaU_U, nI_add, pk_mul, jaIx_nI, vp_inT, true_and, and_true, ↓jaO0, ↓jaO1, nI_z, nI_z2, nI_z3, nI_z4, nI_z5, nI_lt', nI_le', nI_eq', jaUI_at, jaPt_eq, jaPt_ne, jaUI_o, jaUI_2, jaUL_at, jaUL_o, jaUL_1, jaB_z, jaB_1, ↓jaB_01, Classical.not_not, and_self, true_or, or_true, nI_11, Nat.reduceEqDiff, Nat.reduceAdd, Nat.reduceMul, Nat.add_zero, Nat.zero_add, Nat.mul_zero, not_true_eq_false, not_false_eq_true, false_implies, true_implies, hd1']
      generalize hT : 133 * n + 7 + 21 * k = t at *
      have ht : t < 3200 := by omega
      have L : ∀ q r0 w0, (∀ u8 u9 u10, jc_M_comes_3 D kk (nI n) (nI id) (nI (9 * id)) (nI (133 * n)) (jvRt d e1 id t r0 (jz d (t + 4))) w0 (nI (k + 1)) u8 u9 u10 (jaU σ 20 S1)) → jc_M_comes_6 D kk (nI n) (nI id) (nI (9 * id)) (nI (133 * n)) r0 w0 (nI k) (nI t) q (nI 0) (jaU σ 20 S1) := by
        intro q r0 w0 hk2
        refine jaFor (C := fun x => jc_M_comes_6 D kk (nI n) (nI id) (nI (9 * id)) (nI (133 * n)) (jvRt d e1 id t r0 x) w0 (nI k) (nI t) q (nI x) (jaU σ 20 S1)) (N := jz d (t + 4)) ?_ (fun x hx ih2 => ?_)
        · apply jb_M_comes_6
          simp (disch := first | omega | decide) only [jaU_eq, jaU_U, nI_add, pk_mul, jaIx_nI, vp_inT, true_and, and_true, ↓jaO0, ↓jaO1, nI_z, nI_z2, nI_z3, nI_z4, nI_z5, nI_lt', nI_le', nI_eq', jaUI_at, jaPt_eq, jaPt_ne, jaUI_o, jaUI_2, jaUL_at, jaUL_o, jaUL_1, jaB_z, jaB_1, ↓jaB_01, Classical.not_not, and_self, true_or, or_true, nI_11, Nat.reduceEqDiff, Nat.reduceAdd, Nat.reduceMul, Nat.add_zero, Nat.zero_add, Nat.mul_zero, not_true_eq_false, not_false_eq_true, false_implies, true_implies, hd1']
          rw [ht4]
          simp (disch := first | omega | decide) only [jaU_eq, jaU_U, nI_add, pk_mul, jaIx_nI, vp_inT, true_and, and_true, ↓jaO0, ↓jaO1, nI_z, nI_z2, nI_z3, nI_z4, nI_z5, nI_lt', nI_le', nI_eq', jaUI_at, jaPt_eq, jaPt_ne, jaUI_o, jaUI_2, jaUL_at, jaUL_o, jaUL_1, jaB_z, jaB_1, ↓jaB_01, Classical.not_not, and_self, true_or, or_true, nI_11, Nat.reduceEqDiff, Nat.reduceAdd, Nat.reduceMul, Nat.add_zero, Nat.zero_add, Nat.mul_zero, not_true_eq_false, not_false_eq_true, false_implies, true_implies]
          refine ⟨fun _ => ?_, fun q => absurd (by omega) q⟩
          exact hk2 _ _ _
        · obtain ⟨hu0, hu3⟩ := htu x hx
          apply jb_M_comes_6
          simp (disch := first | omega | decide) only [jaU_eq, jaU_U, nI_add, pk_mul, jaIx_nI, vp_inT, true_and, and_true, ↓jaO0, ↓jaO1, nI_z, nI_z2, nI_z3, nI_z4, nI_z5, nI_lt', nI_le', nI_eq', jaUI_at, jaPt_eq, jaPt_ne, jaUI_o, jaUI_2, jaUL_at, jaUL_o, jaUL_1, jaB_z, jaB_1, ↓jaB_01, Classical.not_not, and_self, true_or, or_true, nI_11, Nat.reduceEqDiff, Nat.reduceAdd, Nat.reduceMul, Nat.add_zero, Nat.zero_add, Nat.mul_zero, not_true_eq_false, not_false_eq_true, false_implies, true_implies, hd1']
          rw [ht4]
          simp (disch := first | omega | decide) only [jaU_eq, jaU_U, nI_add, pk_mul, jaIx_nI, vp_inT, true_and, and_true, ↓jaO0, ↓jaO1, nI_z, nI_z2, nI_z3, nI_z4, nI_z5, nI_lt', nI_le', nI_eq', jaUI_at, jaPt_eq, jaPt_ne, jaUI_o, jaUI_2, jaUL_at, jaUL_o, jaUL_1, jaB_z, jaB_1, ↓jaB_01, Classical.not_not, and_self, true_or, or_true, nI_11, Nat.reduceEqDiff, Nat.reduceAdd, Nat.reduceMul, Nat.add_zero, Nat.zero_add, Nat.mul_zero, not_true_eq_false, not_false_eq_true, false_implies, true_implies]
          refine ⟨fun q => absurd q (by omega), fun _ => ?_⟩
          refine ⟨fun q2 => ?_, fun q2 => ?_⟩
          · rw [jvRt, jaRec, jaIf1_f q2] at ih2
            exact ih2
          · rcases hu0 with ⟨h0, _⟩ | ⟨_, hf2⟩
            · rw [h0] at q2
              exact absurd q2 (by decide)
            · rw [show t + 5 + 4 * x + 1 = t + 6 + 4 * x by omega] at hf2
              rw [show t + 7 + 4 * x = t + 6 + 4 * x + 1 by omega]
              apply sp_M_keyBy (by omega) he1 h64 hf2 hd2'
              rw [jvRt, jaRec, jaIf1_t q2] at ih2
              exact ih2
      refine ⟨fun q => ?_, fun q => ?_⟩
      · apply L
        rw [jvRs, jvWs, jaRec, jaRec, hT, jaIf1_f q, jaIf1_f q] at ih
        exact ih
      · apply L
        rw [jvRs, jvWs, jaRec, jaRec, hT, jaIf1_t q, jaIf1_t q] at ih
        exact ih
  · intro S1 hs1 hd1' he1 hf
    obtain ⟨ha1, ha2⟩ := hda j hj
    have hj4 : j < 4 := by omega
    apply jb_M_comes_1
    simp (disch := first | omega | decide) only [jaU_eq, jaU_U, nI_add, pk_mul, jaIx_nI, vp_inT, true_and, and_true, ↓jaO0, ↓jaO1, nI_z, nI_z2, nI_z3, nI_z4, nI_z5, nI_lt', nI_le', nI_eq', jaUI_at, jaPt_eq, jaPt_ne, jaUI_o, jaUI_2, jaUL_at, jaUL_o, jaUL_1, jaB_z, jaB_1, ↓jaB_01, Classical.not_not, and_self, true_or, or_true, nI_11, Nat.reduceEqDiff, Nat.reduceAdd, Nat.reduceMul, Nat.add_zero, Nat.zero_add, Nat.mul_zero, not_true_eq_false, not_false_eq_true, false_implies, true_implies, hd1']
    rw [hd2]
    simp (disch := first | omega | decide) only [jaU_eq, jaU_U, nI_add, pk_mul, jaIx_nI, vp_inT, true_and, and_true, ↓jaO0, ↓jaO1, nI_z, nI_z2, nI_z3, nI_z4, nI_z5, nI_lt', nI_le', nI_eq', jaUI_at, jaPt_eq, jaPt_ne, jaUI_o, jaUI_2, jaUL_at, jaUL_o, jaUL_1, jaB_z, jaB_1, ↓jaB_01, Classical.not_not, and_self, true_or, or_true, nI_11, Nat.reduceEqDiff, Nat.reduceAdd, Nat.reduceMul, Nat.add_zero, Nat.zero_add, Nat.mul_zero, not_true_eq_false, not_false_eq_true, false_implies, true_implies]
    refine ⟨fun q => absurd q (by omega), fun _ => ?_⟩
    rw [ha1]
    apply sp_M_atKey (by omega) hs1 (by omega) (by rw [hw1, nI_z (by omega)]; omega)
    simp (disch := first | omega | decide) only [jaU_eq, jaU_U, nI_add, pk_mul, jaIx_nI, vp_inT, true_and, and_true, ↓jaO0, ↓jaO1, nI_z, nI_z2, nI_z3, nI_z4, nI_z5, nI_lt', nI_le', nI_eq', jaUI_at, jaPt_eq, jaPt_ne, jaUI_o, jaUI_2, jaUL_at, jaUL_o, jaUL_1, jaB_z, jaB_1, ↓jaB_01, Classical.not_not, and_self, true_or, or_true, nI_11, Nat.reduceEqDiff, Nat.reduceAdd, Nat.reduceMul, Nat.add_zero, Nat.zero_add, Nat.mul_zero, not_true_eq_false, not_false_eq_true, false_implies, true_implies, hd1']
    refine ih _ ?_ ?_ ?_ ?_
    · simp (disch := first | omega | decide) only [jaU_eq, jaU_U, nI_add, pk_mul, jaIx_nI, vp_inT, true_and, and_true, ↓jaO0, ↓jaO1, nI_z, nI_z2, nI_z3, nI_z4, nI_z5, nI_lt', nI_le', nI_eq', jaUI_at, jaPt_eq, jaPt_ne, jaUI_o, jaUI_2, jaUL_at, jaUL_o, jaUL_1, jaB_z, jaB_1, ↓jaB_01, Classical.not_not, and_self, true_or, or_true, nI_11, Nat.reduceEqDiff, Nat.reduceAdd, Nat.reduceMul, Nat.add_zero, Nat.zero_add, Nat.mul_zero, not_true_eq_false, not_false_eq_true, false_implies, true_implies, hs1]
    · simp (disch := first | omega | decide) only [jaU_eq, jaU_U, nI_add, pk_mul, jaIx_nI, vp_inT, true_and, and_true, ↓jaO0, ↓jaO1, nI_z, nI_z2, nI_z3, nI_z4, nI_z5, nI_lt', nI_le', nI_eq', jaUI_at, jaPt_eq, jaPt_ne, jaUI_o, jaUI_2, jaUL_at, jaUL_o, jaUL_1, jaB_z, jaB_1, ↓jaB_01, Classical.not_not, and_self, true_or, or_true, nI_11, Nat.reduceEqDiff, Nat.reduceAdd, Nat.reduceMul, Nat.add_zero, Nat.zero_add, Nat.mul_zero, not_true_eq_false, not_false_eq_true, false_implies, true_implies, hd1']
    · simp (disch := first | omega | decide) only [jaU_eq, jaU_U, nI_add, pk_mul, jaIx_nI, vp_inT, true_and, and_true, ↓jaO0, ↓jaO1, nI_z, nI_z2, nI_z3, nI_z4, nI_z5, nI_lt', nI_le', nI_eq', jaUI_at, jaPt_eq, jaPt_ne, jaUI_o, jaUI_2, jaUL_at, jaUL_o, jaUL_1, jaB_z, jaB_1, ↓jaB_01, Classical.not_not, and_self, true_or, or_true, nI_11, Nat.reduceEqDiff, Nat.reduceAdd, Nat.reduceMul, Nat.add_zero, Nat.zero_add, Nat.mul_zero, not_true_eq_false, not_false_eq_true, false_implies, true_implies, he1]
      rfl
    · (repeat' first | assumption | exact jaFr.rfl | refine jaFr.ui ?_ (by decide) (by decide) | refine jaFr.uf ?_ (by decide) | exact jaFr.mono (by assumption) (by decide) (by decide))
end
