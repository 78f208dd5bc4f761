section
/-! the reference: a TRANS, read -/
theorem sp_M_lok {D : Nat} (hD : 3 ≤ D) {kk : Int32 → jaT → Prop} {σ : jaT} {S : jaS} {X : jtX} {nm : Nat → Nat} {i f f0 n : Nat} (hR : jmN S X i) (hn : ∀ r, r < n → S.2 78 0 (f + r) = Int64.ofNat (nm (f0 + r)) ∧ nm (f0 + r) < 9223372036854775808) (hb : f + n ≤ 32) (h : ∀ r, jwNam X nm f0 n i = .inr r → ∀ S', jmN S' X i → S'.1 70 0 21 = nI r → jaFr [] jmG S S' → kk (nI 1) (jaU σ 20 S')) (hf : ∀ c p, jwNam X nm f0 n i = .inl (c, p) → ∀ S', jmFl S' X c p → jaFr [] jmG S S' → kk (nI 0) (jaU σ 20 S')) : jaDe D jy_M_looksAt [jaMo, .inl (nI f), .inl (nI n)] (jaU σ 20 S) (jaKi kk) := by
  unfold jwNam at h hf
  refine sp_M_looksAt hD hR hn hb (fun r q ho S' a b c => ?_) (fun q ho S' a b => ?_) (fun q S' a b => ?_)
  · rw [jaIf1_t q, ho] at h
    exact h _ rfl _ a b c
  · rw [jaIf1_t q, ho] at hf
    exact hf _ _ rfl _ a b
  · rw [jaIf1_f q] at hf
    exact hf _ _ rfl _ a b
/-- what stands when a TRANS is read -/
def jsM (S : jaS) (X : jtX) (nm : Nat → Nat) (K : Nat) (u : jsS) (i : Nat) : Prop := jmN S X i ∧ (∀ r, r < K → S.2 78 0 (3 + r) = Int64.ofNat (nm (3 + r)) ∧ nm (3 + r) < 9223372036854775808) ∧ S.1 72 0 1 = nI K ∧ S.1 77 0 = u.1 ∧ S.1 70 0 24 = nI u.2
abbrev jsG : List Nat := [24, 25, 26, 4, 14, 15, 16, 17, 18, 19, 20, 21]
theorem jsM.x {S S' : jaS} {X : jtX} {nm : Nat → Nat} {K : Nat} {u u' : jsS} {i i' : Nat} {A F : List Nat} (h : jsM S X nm K u i) (f : jaFr A F S S') (h72 : 72 ∉ A) (h78 : 78 ∉ A) (a : jmN S' X i') (b : S'.1 77 0 = u'.1) (c : S'.1 70 0 24 = nI u'.2) : jsM S' X nm K u' i' :=
  ⟨a, fun r hr => by rw [f.l 78 h78 (by decide)]; exact h.2.1 r hr, by rw [f.s 72 h72 (by decide)]; exact h.2.2.1, b, c⟩
set_option maxHeartbeats 1000000 in
theorem sp_M_takesRef {D : Nat} (hD : 5 ≤ D) {kk : Int32 → jaT → Prop} {σ : jaT} {S : jaS} {X : jtX} {nm : Nat → Nat} {K i : Nat} {full : Prop} {u : jsS} (hM : jsM S X nm K u i) (hK : K ≤ 10) (hw : jsW K u)
    (h : ∀ u' r t i', jsRef X nm K full u i = .inr (u', r, t, i') → ∀ S', jsM S' X nm K u' i' → S'.1 70 0 25 = nI r → S'.1 70 0 26 = jvOp t nI → jaFr [77] jsG S S' → kk (nI 1) (jaU σ 20 S'))
    (h0 : ∀ c p, jsRef X nm K full u i = .inl (c, p) → ∀ S', jmFl S' X c p → jaFr [77] jsG S S' → kk (nI 0) (jaU σ 20 S')) :
    jaDe D jy_M_takesRef [jaMo, .inl (jaB full)] (jaU σ 20 S) (jaKi kk) := by
  have hM' := hM
  obtain ⟨hR, hn, h1, hP, h24⟩ := hM
  have a4 := hw.1
  obtain ⟨D, rfl, hD⟩ := jaSuc hD
  unfold jsRef at h h0
  apply js_M_takesRef
  refine sp_M_isWord (n := 8) (by omega) hR (by omega) (by decide +kernel) ?_
  simp (disch := first | omega | decide) only [jaU_eq, jaU_U, nI_add, pk_mul, jaIx_nI, vp_inT, true_and, and_true, ↓jaO0, ↓jaO1, nI_z, nI_z2, nI_z3, nI_z4, nI_z5, nI_lt', nI_le', nI_eq', jaUI_at, jaPt_eq, jaPt_ne, jaUI_o, jaUI_2, jaUL_at, jaUL_o, jaUL_1, jaB_z, jaB_1, ↓jaB_01, Classical.not_not, and_self, true_or, or_true, nI_11, Nat.reduceEqDiff, Nat.reduceAdd, Nat.reduceMul, Nat.add_zero, Nat.zero_add, Nat.mul_zero, not_true_eq_false, not_false_eq_true, false_implies, true_implies, h1]
  refine ⟨fun q => ?_, fun q => ?_⟩
  · rw [jaIf1_f q] at h h0
    refine sp_M_lok (f0 := 3) (by omega) hR hn (by omega) (fun r e S1 a b f => ?_) (fun c p e S1 a f => ?_)
    · rw [jwB_i e] at h h0
      refine ⟨fun _ => ?_, fun z => absurd z (by decide)⟩
      simp (disch := first | omega | decide) only [jaU_eq, jaU_U, nI_add, pk_mul, jaIx_nI, vp_inT, true_and, and_true, ↓jaO0, ↓jaO1, nI_z, nI_z2, nI_z3, nI_z4, nI_z5, nI_lt', nI_le', nI_eq', jaUI_at, jaPt_eq, jaPt_ne, jaUI_o, jaUI_2, jaUL_at, jaUL_o, jaUL_1, jaB_z, jaB_1, ↓jaB_01, Classical.not_not, and_self, true_or, or_true, nI_11, Nat.reduceEqDiff, Nat.reduceAdd, Nat.reduceMul, Nat.add_zero, Nat.zero_add, Nat.mul_zero, not_true_eq_false, not_false_eq_true, false_implies, true_implies, b]
      refine ⟨fun q2 => ?_, fun q2 => ?_⟩
      · rw [jaIf1_f q2] at h
        have f1 : jaFr [] [25, 26] S1 (jaUI (jaUI S1 70 0 25 (nI r)) 70 0 26 (-1)) := (jaFr.rfl.uf (by decide)).uf (by decide)
        refine sp_M_next' (by omega) (a.f f1 (by decide) (by decide) (by decide)) (fun S2 a2 f2 => ?_)
        have F : jaFr [77] jsG S S2 := (f.mono (by decide) (by decide)).trans ((f1.mono (by decide) (by decide)).trans (f2.mono (by decide) (by decide)))
        refine h u r none (i + 1) rfl S2 (hM'.x F (by decide) (by decide) a2 ?_ ?_) ?_ ?_ F
        · rw [f2.s 77 (by decide) (by decide), f1.s 77 (by decide) (by decide), f.s 77 (by decide) (by decide)]; exact hP
        · rw [f2.f 24 (by decide), f1.f 24 (by decide), f.f 24 (by decide)]; exact h24
        · rw [f2.f 25 (by decide)]
          simp (disch := first | omega | decide) only [jaU_eq, jaU_U, nI_add, pk_mul, jaIx_nI, vp_inT, true_and, and_true, ↓jaO0, ↓jaO1, nI_z, nI_z2, nI_z3, nI_z4, nI_z5, nI_lt', nI_le', nI_eq', jaUI_at, jaPt_eq, jaPt_ne, jaUI_o, jaUI_2, jaUL_at, jaUL_o, jaUL_1, jaB_z, jaB_1, ↓jaB_01, Classical.not_not, and_self, true_or, or_true, nI_11, Nat.reduceEqDiff, Nat.reduceAdd, Nat.reduceMul, Nat.add_zero, Nat.zero_add, Nat.mul_zero, not_true_eq_false, not_false_eq_true, false_implies, true_implies]
        · rw [f2.f 26 (by decide)]
          simp (disch := first | omega | decide) only [jaU_eq, jaU_U, nI_add, pk_mul, jaIx_nI, vp_inT, true_and, and_true, ↓jaO0, ↓jaO1, nI_z, nI_z2, nI_z3, nI_z4, nI_z5, nI_lt', nI_le', nI_eq', jaUI_at, jaPt_eq, jaPt_ne, jaUI_o, jaUI_2, jaUL_at, jaUL_o, jaUL_1, jaB_z, jaB_1, ↓jaB_01, Classical.not_not, and_self, true_or, or_true, nI_11, Nat.reduceEqDiff, Nat.reduceAdd, Nat.reduceMul, Nat.add_zero, Nat.zero_add, Nat.mul_zero, not_true_eq_false, not_false_eq_true, false_implies, true_implies]
          rfl
      · rw [jaIf1_t q2] at h0
        exact sp_M_bad (by omega) a (fun S2 a2 f2 => ⟨Or.inl rfl, h0 4 i rfl S2 a2 ((f.mono (by decide) (by decide)).trans (f2.mono (by decide) (by decide)))⟩)
    · rw [jwB_l e] at h0
      exact ⟨fun z => absurd rfl z, fun _ => h0 c p rfl S1 a (f.mono (by decide) (by decide))⟩
  · rw [jaIf1_t q] at h h0
    refine ⟨fun q2 => ?_, fun q2 => ?_⟩
    · rw [jaIf1_t (Or.inl q2)] at h0
      exact sp_M_bad (by omega) hR (fun S2 a2 f2 => ⟨Or.inl rfl, h0 4 i rfl S2 a2 (f2.mono (by decide) (by decide))⟩)
    · simp (disch := first | omega | decide) only [jaU_eq, jaU_U, nI_add, pk_mul, jaIx_nI, vp_inT, true_and, and_true, ↓jaO0, ↓jaO1, nI_z, nI_z2, nI_z3, nI_z4, nI_z5, nI_lt', nI_le', nI_eq', jaUI_at, jaPt_eq, jaPt_ne, jaUI_o, jaUI_2, jaUL_at, jaUL_o, jaUL_1, jaB_z, jaB_1, ↓jaB_01, Classical.not_not, and_self, true_or, or_true, nI_11, Nat.reduceEqDiff, Nat.reduceAdd, Nat.reduceMul, Nat.add_zero, Nat.zero_add, Nat.mul_zero, not_true_eq_false, not_false_eq_true, false_implies, true_implies, h24]
      refine ⟨fun q3 => ?_, fun q3 => ?_⟩
      · rw [jaIf1_f (fun z => z.elim q2 q3)] at h h0
        obtain ⟨D2, rfl, hD2⟩ := jaSuc (show 3 + 1 ≤ D by omega)
        apply js_M_takesAt
        refine sp_M_next' (by omega) hR (fun S1 a1 f1 => ?_)
        have F1 : jaFr [77] jsG S S1 := f1.mono (by decide) (by decide)
        have m1 : S1.1 72 0 1 = nI K := by rw [f1.s 72 (by decide) (by decide)]; exact h1
        simp (disch := first | omega | decide) only [jaU_eq, jaU_U, nI_add, pk_mul, jaIx_nI, vp_inT, true_and, and_true, ↓jaO0, ↓jaO1, nI_z, nI_z2, nI_z3, nI_z4, nI_z5, nI_lt', nI_le', nI_eq', jaUI_at, jaPt_eq, jaPt_ne, jaUI_o, jaUI_2, jaUL_at, jaUL_o, jaUL_1, jaB_z, jaB_1, ↓jaB_01, Classical.not_not, and_self, true_or, or_true, nI_11, Nat.reduceEqDiff, Nat.reduceAdd, Nat.reduceMul, Nat.add_zero, Nat.zero_add, Nat.mul_zero, not_true_eq_false, not_false_eq_true, false_implies, true_implies, m1]
        refine sp_M_lok (f0 := 3) (by omega) a1 (fun r hr => by rw [f1.l 78 (by decide) (by decide)]; exact hn r hr) (by omega) (fun r e S2 a b f => ?_) (fun c p e S2 a f => ?_)
        · rw [jwB_i e] at h
          have g24 : S2.1 70 0 24 = nI u.2 := by rw [f.f 24 (by decide), f1.f 24 (by decide)]; exact h24
          have gP : S2.1 77 0 = u.1 := by rw [f.s 77 (by decide) (by decide), f1.s 77 (by decide) (by decide)]; exact hP
          refine ⟨fun _ => ?_, fun z => absurd z (by decide)⟩
          simp (disch := first | omega | decide) only [jaU_eq, jaU_U, nI_add, pk_mul, jaIx_nI, vp_inT, true_and, and_true, ↓jaO0, ↓jaO1, nI_z, nI_z2, nI_z3, nI_z4, nI_z5, nI_lt', nI_le', nI_eq', jaUI_at, jaPt_eq, jaPt_ne, jaUI_o, jaUI_2, jaUL_at, jaUL_o, jaUL_1, jaB_z, jaB_1, ↓jaB_01, Classical.not_not, and_self, true_or, or_true, nI_11, Nat.reduceEqDiff, Nat.reduceAdd, Nat.reduceMul, Nat.add_zero, Nat.zero_add, Nat.mul_zero, not_true_eq_false, not_false_eq_true, false_implies, true_implies, b, g24]
          have f3 : jaFr [77] [24, 25, 26] S2 (jaUI (jaUI (jaUI (jaUI S2 77 0 (3 + u.2) (nI r)) 70 0 25 (nI r)) 70 0 26 (nI u.2)) 70 0 24 (nI (u.2 + 1))) := (((jaFr.rfl.ui (by decide) (by decide)).uf (by decide)).uf (by decide)).uf (by decide)
          refine sp_M_next' (by omega) (a.f f3 (by decide) (by decide) (by decide)) (fun S3 a3 f4 => ?_)
          have F : jaFr [77] jsG S S3 := F1.trans ((f.mono (by decide) (by decide)).trans ((f3.mono (by decide) (by decide)).trans (f4.mono (by decide) (by decide))))
          refine h _ r (some u.2) (i + 2) rfl S3 (hM'.x F (by decide) (by decide) a3 ?_ ?_) ?_ ?_ F
          · rw [f4.s 77 (by decide) (by decide), jaUI_o (by decide), jaUI_o (by decide), jaUI_o (by decide), jaUI_at, gP]
          · rw [f4.f 24 (by decide)]
            simp (disch := first | omega | decide) only [jaU_eq, jaU_U, nI_add, pk_mul, jaIx_nI, vp_inT, true_and, and_true, ↓jaO0, ↓jaO1, nI_z, nI_z2, nI_z3, nI_z4, nI_z5, nI_lt', nI_le', nI_eq', jaUI_at, jaPt_eq, jaPt_ne, jaUI_o, jaUI_2, jaUL_at, jaUL_o, jaUL_1, jaB_z, jaB_1, ↓jaB_01, Classical.not_not, and_self, true_or, or_true, nI_11, Nat.reduceEqDiff, Nat.reduceAdd, Nat.reduceMul, Nat.add_zero, Nat.zero_add, Nat.mul_zero, not_true_eq_false, not_false_eq_true, false_implies, true_implies]
          · rw [f4.f 25 (by decide)]
            simp (disch := first | omega | decide) only [jaU_eq, jaU_U, nI_add, pk_mul, jaIx_nI, vp_inT, true_and, and_true, ↓jaO0, ↓jaO1, nI_z, nI_z2, nI_z3, nI_z4, nI_z5, nI_lt', nI_le', nI_eq', jaUI_at, jaPt_eq, jaPt_ne, jaUI_o, jaUI_2, jaUL_at, jaUL_o, jaUL_1, jaB_z, jaB_1, ↓jaB_01, Classical.not_not, and_self, true_or, or_true, nI_11, Nat.reduceEqDiff, Nat.reduceAdd, Nat.reduceMul, Nat.add_zero, Nat.zero_add, Nat.mul_zero, not_true_eq_false, not_false_eq_true, false_implies, true_implies]
          · rw [f4.f 26 (by decide)]
            simp (disch := first | omega | decide) only [jaU_eq, jaU_U, nI_add, pk_mul, jaIx_nI, vp_inT, true_and, and_true, ↓jaO0, ↓jaO1, nI_z, nI_z2, nI_z3, nI_z4, nI_z5, nI_lt', nI_le', nI_eq', jaUI_at, jaPt_eq, jaPt_ne, jaUI_o, jaUI_2, jaUL_at, jaUL_o, jaUL_1, jaB_z, jaB_1, ↓jaB_01, Classical.not_not, and_self, true_or, or_true, nI_11, Nat.reduceEqDiff, Nat.reduceAdd, Nat.reduceMul, Nat.add_zero, Nat.zero_add, Nat.mul_zero, not_true_eq_false, not_false_eq_true, false_implies, true_implies]
            rfl
        · rw [jwB_l e] at h0
          refine ⟨fun z => absurd rfl z, fun _ => ?_⟩
          exact h0 c p rfl S2 a (F1.trans (f.mono (by decide) (by decide)))
      · rw [jaIf1_t (Or.inr q3)] at h0
        exact sp_M_bad (by omega) hR (fun S2 a2 f2 => ⟨Or.inl rfl, h0 4 i rfl S2 a2 (f2.mono (by decide) (by decide))⟩)
set_option maxHeartbeats 2000000 in
theorem sp_M_takesTerm {D : Nat} (hD : 6 ≤ D) {kk : Int32 → jaT → Prop} {σ : jaT} {S : jaS} {X : jtX} {nm : Nat → Nat} {K i to l k : Nat} {u : jsS} (hM : jsM S X nm K u i) (hK : K ≤ 10) (hw : jsW K u) (hto : 7 ≤ to) (hto2 : to + 21 ≤ 133) (hl : l ≤ 1) (hk : k ≤ 4) (h4 : u.1 (to + 4) = nI k)
    (h : ∀ u' i', jsTerm X nm K to l k u i = .inr (u', i') → ∀ S', jsM S' X nm K u' i' → jaFr [77] jsG S S' → kk (nI 1) (jaU σ 20 S'))
    (h0 : ∀ c p, jsTerm X nm K to l k u i = .inl (c, p) → ∀ S', jmFl S' X c p → jaFr [77] jsG S S' → kk (nI 0) (jaU σ 20 S')) :
    jaDe D jy_M_takesTerm [jaMo, .inl (nI to), .inl (nI l)] (jaU σ 20 S) (jaKi kk) := by
  have hM' := hM
  obtain ⟨hR, hn, h1, hP, h24⟩ := hM
  obtain ⟨⟨a, hX, cc, d, e, g, kq, lq, m, nn⟩, v⟩ := hR
  have hR : jmN S X i := ⟨⟨a, hX, cc, d, e, g, kq, lq, m, nn⟩, v⟩
  have ht := jtTc_lt (K := jtK X i)
  have c4 : S.1 77 0 (to + 4) = nI k := by rw [hP]; exact h4
  obtain ⟨D, rfl, hD⟩ := jaSuc hD
  -- behind the cells
  have B : ∀ u1 b v1 t i1, jsTv X nm K (k = 4) u i = .inr (u1, b, v1, t, i1) → ¬ k = 4 → ∀ S1, jmN S1 X i1 → S1.1 77 0 = jaPt (jaPt (jaPt u1.1 (to + 5 + 4 * k) (nI b)) (to + 5 + 4 * k + 1) (nI v1)) (to + 5 + 4 * k + 2) (jvOp t nI) → S1.1 70 0 24 = nI u1.2 → jaFr [77] jsG S S1 → ∀ x4, jc_M_takesTerm_8 D kk (nI to) (nI l) (nI k) x4 (nI (to + 5 + 4 * k)) (jaU σ 20 S1) := by
    intro u1 b v1 t i1 e1 hk4 S1 a1 a2 a3 f1 x4
    have E := jsTerm_e (to := to) (l := l) e1
    have C : ∀ w, w = nI l → jc_M_takesTerm_10 D kk (nI to) (nI l) (nI k) x4 (nI (to + 5 + 4 * k)) (nI (to + 5 + 4 * k) + nI 3) w (jaU σ 20 S1) := by
      rintro w rfl
      have y4 : u1.1 (to + 4) = nI k := (((jsTv_r hX e1 hw hK).2.2.2.2.2) _ (by omega)).trans h4
      have z4 : S1.1 77 0 (to + 4) = nI k := by rw [a2, jaPt_ne (by omega), jaPt_ne (by omega), jaPt_ne (by omega), y4]
      apply jb_M_takesTerm_10
      simp (disch := first | omega | decide) only [jaU_eq, jaU_U, nI_add, pk_mul, jaIx_nI, vp_inT, true_and, and_true, ↓jaO0, ↓jaO1, nI_z, nI_z2, nI_z3, nI_z4, nI_z5, nI_lt', nI_le', nI_eq', jaUI_at, jaPt_eq, jaPt_ne, jaUI_o, jaUI_2, jaUL_at, jaUL_o, jaUL_1, jaB_z, jaB_1, ↓jaB_01, Classical.not_not, and_self, true_or, or_true, nI_11, Nat.reduceEqDiff, Nat.reduceAdd, Nat.reduceMul, Nat.add_zero, Nat.zero_add, Nat.mul_zero, not_true_eq_false, not_false_eq_true, false_implies, true_implies, z4]
      have f2 : jaFr [77] [] S1 (jaUI (jaUI S1 77 0 (to + 5 + 4 * k + 3) (nI l)) 77 0 (to + 4) (nI (k + 1))) := (jaFr.rfl.ui (by decide) (by decide)).ui (by decide) (by decide)
      have F := f1.trans (f2.mono (by decide) (by decide))
      refine h _ _ E _ (hM'.x F (by decide) (by decide) (a1.f f2 (by decide) (by decide) (fun _ _ => List.not_mem_nil)) ?_ ?_) F
      · rw [jaUI_at, jaUI_at, a2]
        rfl
      · rw [f2.f 24 List.not_mem_nil]; exact a3
    apply jb_M_takesTerm_8
    refine ⟨fun z => ?_, fun z => ?_⟩
    · rw [nI_z (by omega)] at z
      exact C _ (by rw [z])
    · rw [nI_z (by omega)] at z
      exact C _ (by rw [show l = 1 by omega])
  have A : ∀ x4 : Prop, (x4 ↔ k = 4) → ∀ kz, (¬ k = 4 → kz = k) → kz ≤ 4 → jc_M_takesTerm_4 D kk (nI to) (nI l) (nI k) (jaB x4) (nI to + nI 5) (nI 4) (nI kz) (jaU σ 20 S) := by
    intro x4 hx kz hkz hkz4
    rw [propext hx]
    apply jb_M_takesTerm_4
    simp (disch := first | omega | decide) only [jaU_eq, jaU_U, nI_add, pk_mul, jaIx_nI, vp_inT, true_and, and_true, ↓jaO0, ↓jaO1, nI_z, nI_z2, nI_z3, nI_z4, nI_z5, nI_lt', nI_le', nI_eq', jaUI_at, jaPt_eq, jaPt_ne, jaUI_o, jaUI_2, jaUL_at, jaUL_o, jaUL_1, jaB_z, jaB_1, ↓jaB_01, Classical.not_not, and_self, true_or, or_true, nI_11, Nat.reduceEqDiff, Nat.reduceAdd, Nat.reduceMul, Nat.add_zero, Nat.zero_add, Nat.mul_zero, not_true_eq_false, not_false_eq_true, false_implies, true_implies, g]
    rw [jtTc_2]
    refine ⟨fun q => ?_, fun q => ⟨fun q2 => ?_, fun q2 => ?_⟩⟩
    · refine sp_M_takesRef (full := k = 4) (nm := nm) (K := K) (u := u) (i := i) (X := X) (by omega) hM' hK hw (fun u1 r t i1 e1 S1 a1 a2 a3 f1 => ?_) (fun c p e1 S1 a1 f1 => ?_)
      · have nf := (jsRef_r e1 hw hK).1
        have ekz := hkz nf
        subst ekz
        have e2 : jsTv X nm K (kz = 4) u i = .inr (u1, 1, r, t, i1) := by
          unfold jsTv
          rw [jaIf1_f q, jwB_i e1]
        refine ⟨fun _ => ?_, fun z => absurd z (by decide)⟩
        simp (disch := first | omega | decide) only [jaU_eq, jaU_U, nI_add, pk_mul, jaIx_nI, vp_inT, true_and, and_true, ↓jaO0, ↓jaO1, nI_z, nI_z2, nI_z3, nI_z4, nI_z5, nI_lt', nI_le', nI_eq', jaUI_at, jaPt_eq, jaPt_ne, jaUI_o, jaUI_2, jaUL_at, jaUL_o, jaUL_1, jaB_z, jaB_1, ↓jaB_01, Classical.not_not, and_self, true_or, or_true, nI_11, Nat.reduceEqDiff, Nat.reduceAdd, Nat.reduceMul, Nat.add_zero, Nat.zero_add, Nat.mul_zero, not_true_eq_false, not_false_eq_true, false_implies, true_implies, a2, a3]
        refine B u1 1 r t i1 e2 nf _ ?_ ?_ ?_ (((f1.ui (by decide) (by decide)).ui (by decide) (by decide)).ui (by decide) (by decide)) _
        · exact a1.1.f (((jaFr.rfl (A := [77]) (B := [])).ui (by decide) (by decide)).ui (by decide) (by decide) |>.ui (by decide) (by decide)) (by decide) (by decide) (fun _ _ => List.not_mem_nil)
        · rw [jaUI_at, jaUI_at, jaUI_at, a1.2.2.2.1]
        · rw [jaUI_o (by decide), jaUI_o (by decide), jaUI_o (by decide)]; exact a1.2.2.2.2
      · refine ⟨fun z => absurd rfl z, fun _ => ?_⟩
        (try simp (disch := first | omega | decide) only [jaU_eq, jaU_U, nI_add, pk_mul, jaIx_nI, vp_inT, true_and, and_true, ↓jaO0, ↓jaO1, nI_z, nI_z2, nI_z3, nI_z4, nI_z5, nI_lt', nI_le', nI_eq', jaUI_at, jaPt_eq, jaPt_ne, jaUI_o, jaUI_2, jaUL_at, jaUL_o, jaUL_1, jaB_z, jaB_1, ↓jaB_01, Classical.not_not, and_self, true_or, or_true, nI_11, Nat.reduceEqDiff, Nat.reduceAdd, Nat.reduceMul, Nat.add_zero, Nat.zero_add, Nat.mul_zero, not_true_eq_false, not_false_eq_true, false_implies, true_implies])
        refine h0 c p ?_ S1 a1 f1
        unfold jsTerm jsTv
        rw [jaIf1_f q, jwB_l e1]
        rfl
    · have ekz := hkz q2
      subst ekz
      rw [lq q]
      have hv := jtV_lt hX q
      have e2 : jsTv X nm K (kz = 4) u i = .inr (u, 0, jtV X i, none, i + 1) := by
        unfold jsTv
        rw [jaIf1_t q, jaIf1_f q2]
      simp (disch := first | omega | decide) only [jaU_eq, jaU_U, nI_add, pk_mul, jaIx_nI, vp_inT, true_and, and_true, ↓jaO0, ↓jaO1, nI_z, nI_z2, nI_z3, nI_z4, nI_z5, nI_lt', nI_le', nI_eq', jaUI_at, jaPt_eq, jaPt_ne, jaUI_o, jaUI_2, jaUL_at, jaUL_o, jaUL_1, jaB_z, jaB_1, ↓jaB_01, Classical.not_not, and_self, true_or, or_true, nI_11, Nat.reduceEqDiff, Nat.reduceAdd, Nat.reduceMul, Nat.add_zero, Nat.zero_add, Nat.mul_zero, not_true_eq_false, not_false_eq_true, false_implies, true_implies, lq q]
      have f3 : jaFr [77] [] S (jaUI (jaUI (jaUI S 77 0 (to + 5 + 4 * kz) (nI 0)) 77 0 (to + 5 + 4 * kz + 1) (nI (jtV X i))) 77 0 (to + 5 + 4 * kz + 2) (-1)) := ((jaFr.rfl.ui (by decide) (by decide)).ui (by decide) (by decide)).ui (by decide) (by decide)
      refine sp_M_next' (by omega) (hR.f f3 (by decide) (by decide) (fun _ _ => List.not_mem_nil)) (fun S1 a1 f1 => ?_)
      refine B u 0 _ none (i + 1) e2 q2 S1 a1 ?_ ?_ ((f3.mono (by decide) (by decide)).trans (f1.mono (by decide) (by decide))) _
      · rw [f1.s 77 (by decide) (by decide), jaUI_at, jaUI_at, jaUI_at, hP]
        rfl
      · rw [f1.f 24 (by decide), f3.f 24 List.not_mem_nil]; exact h24
    · have q3 := q2
      refine sp_M_bad (by omega) hR (fun S2 a2 f2 => ⟨Or.inl rfl, h0 4 i ?_ S2 a2 (f2.mono (by decide) (by decide))⟩)
      unfold jsTerm jsTv
      rw [jaIf1_t q, jaIf1_t q3]
      rfl
  apply js_M_takesTerm
  simp (disch := first | omega | decide) only [jaU_eq, jaU_U, nI_add, pk_mul, jaIx_nI, vp_inT, true_and, and_true, ↓jaO0, ↓jaO1, nI_z, nI_z2, nI_z3, nI_z4, nI_z5, nI_lt', nI_le', nI_eq', jaUI_at, jaPt_eq, jaPt_ne, jaUI_o, jaUI_2, jaUL_at, jaUL_o, jaUL_1, jaB_z, jaB_1, ↓jaB_01, Classical.not_not, and_self, true_or, or_true, nI_11, Nat.reduceEqDiff, Nat.reduceAdd, Nat.reduceMul, Nat.add_zero, Nat.zero_add, Nat.mul_zero, not_true_eq_false, not_false_eq_true, false_implies, true_implies, c4]
  refine ⟨fun q => ?_, fun q => ?_⟩
  · apply jb_M_takesTerm_2
    refine ⟨fun _ => ?_, fun z => absurd rfl z⟩
    have := A False ⟨fun z => z.elim, fun z => absurd z q⟩ k (fun _ => rfl) hk
    rw [jaB_f (fun z => z)] at this
    exact this
  · apply jb_M_takesTerm_2
    refine ⟨fun z => absurd z (by decide), fun _ => ?_⟩
    have := A True ⟨fun _ => q, fun _ => trivial⟩ 0 (fun z => absurd q z) (by omega)
    rw [jaB_t trivial] at this
    exact this
end
