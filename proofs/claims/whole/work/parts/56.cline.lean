section
/-! the class: a LINE of a WORLD -/
theorem jwNum_r {X : jtX} {lo hi i v : Nat} (h : jwNum X lo hi i = .inr v) : jtK X i = 2 ∧ v = jtV X i ∧ lo ≤ v ∧ v ≤ hi := by
  unfold jwNum at h
  by_cases q : jtK X i = 2
  · rw [jaIf1_t q] at h
    by_cases q2 : lo ≤ jtV X i ∧ jtV X i ≤ hi
    · rw [jaIf1_t q2] at h
      cases h
      exact ⟨q, rfl, q2.1, q2.2⟩
    · rw [jaIf1_f q2] at h
      cases h
  · rw [jaIf1_f q] at h
    cases h
theorem jwNam_r {X : jtX} {nm : Nat → Nat} {f n i r : Nat} (h : jwNam X nm f n i = .inr r) : jtK X i = 3 ∧ r < n ∧ nm (f + r) = jtW X i := by
  unfold jwNam at h
  by_cases q : jtK X i = 3
  · rw [jaIf1_t q] at h
    rcases ho : jnF nm f (jtW X i) n 0 with _ | r'
    · rw [ho] at h
      cases h
    · rw [ho] at h
      cases h
      have := jnF_lt _ _ ho
      exact ⟨q, by omega, this.2.2⟩
  · rw [jaIf1_f q] at h
    cases h
theorem jwNew_r {X : jtX} {h0 : jvA} {nm nm' : Nat → Nat} {slot i : Nat} (h : jwNew X h0 nm slot i = .inr nm') : jtK X i = 3 ∧ nm' = jnPt nm slot (jtW X i) ∧ ¬ ∃ j, j < 16 ∧ jwU h0 j ∧ nm j = jtW X i := by
  unfold jwNew at h
  by_cases q : jtK X i = 3
  · rw [jaIf1_t q] at h
    by_cases q2 : ∃ j, j < 16 ∧ jwU h0 j ∧ nm j = jtW X i
    · rw [jaIf1_t q2] at h
      cases h
    · rw [jaIf1_f q2] at h
      cases h
      exact ⟨q, rfl, q2⟩
  · rw [jaIf1_f q] at h
    cases h
theorem sp_Rd_num {D : Nat} (hD : 2 ≤ D) {kk : Int32 → jaT → Prop} {τ : jaT} {X : jtX} {i lo hi : Nat} (hR : jtR (τ 0) X i) (hlo : lo < 2147483648) (hhi : hi < 2147483648) (h : ∀ v, jwNum X lo hi i = .inr v → v < 1000 → ∀ τ', jtR (τ' 0) X (i + 1) → jtF2 τ τ' → kk (nI v) τ') (hf : ∀ f p, jwNum X lo hi i = .inl (f, p) → ∀ τ', jtFl (τ' 0) X f p → jtF2 τ τ' → kk (-1) τ') : jaDe D jy_Rd_takeNumber [.inr (.inr (2, 0, 0)), .inl (nI lo), .inl (nI hi)] τ (jaKi kk) := by
  unfold jwNum at h hf
  refine sp_Rd_takeNumber hD hR hlo hhi (fun q q1 q2 S' a b c => ?_) (fun q q1 S' a b c => ?_) (fun q S' a b c => ?_)
  · rw [jaIf1_t q, jaIf1_t ⟨q1, q2⟩] at h
    exact h _ rfl (jtV_lt hR.1 q) _ (by rw [jaU_eq]; exact c) (jtF2.u a b)
  · rw [jaIf1_t q, jaIf1_f q1] at hf
    exact hf _ _ rfl _ (by rw [jaU_eq]; exact c) (jtF2.u a b)
  · rw [jaIf1_f q] at hf
    exact hf _ _ rfl _ (by rw [jaU_eq]; exact c) (jtF2.u a b)
theorem sp_Wo_nam {D : Nat} (hD : 2 ≤ D) {kk : Int32 → jaT → Prop} {τ : jaT} {X : jtX} {nm : Nat → Nat} {k i f n : Nat} (hR : jtR (τ 0) X i) (hn : jcN (τ k) nm) (hb : f + n ≤ 16) (h : ∀ r, jwNam X nm f n i = .inr r → ∀ τ', jtR (τ' 0) X (i + 1) → jtF2 τ τ' → kk (nI r) τ') (hf : ∀ c p, jwNam X nm f n i = .inl (c, p) → ∀ τ', jtFl (τ' 0) X c p → jtF2 τ τ' → kk (-1) τ') : jaDe D jy_Wo_takeNamed [jcWo k, .inr (.inr (2, 0, 0)), .inl (nI f), .inl (nI n)] τ (jaKi kk) := by
  unfold jwNam at h hf
  refine sp_Wo_takeNamed hD hR hn hb (fun r q ho τ' a b => ?_) (fun q ho τ' a b => ?_) (fun q τ' a b => ?_)
  · rw [jaIf1_t q, ho] at h
    exact h _ rfl _ a b
  · rw [jaIf1_t q, ho] at hf
    exact hf _ _ rfl _ a b
  · rw [jaIf1_f q] at hf
    exact hf _ _ rfl _ a b
theorem jcW.c {T T' : jaS} {w : jwS} (h : jcW T w) (e : T' = T) : jcW T' w := by rw [e]; exact h
theorem sp_Wo_readEpoch {D : Nat} (hD : 3 ≤ D) {kk : Int32 → jaT → Prop} {τ : jaT} {X : jtX} {w : jwS} {k i : Nat} (hk : k ≠ 0) (hR : jtR (τ 0) X i) (hc : jcW (τ k) w) (hw : jwW w) (h : ∀ w' i', jwEp X w i = .inr (w', i') → ∀ τ', jcW (τ' k) w' → jtR (τ' 0) X i' → jcFr k τ τ' → kk (nI 1) τ') (hf : ∀ c p, jwEp X w i = .inl (c, p) → ∀ τ', jtFl (τ' 0) X c p → jcF4 k τ τ' → kk (nI 0) τ') : jaDe D jy_Wo_readEpoch [jcWo k, .inr (.inr (2, 0, 0))] τ (jaKi kk) := by
  obtain ⟨D, rfl, hD⟩ := jaSuc hD
  obtain ⟨⟨a0, a1, a2, a3, a4⟩, b1, b2, b3, b4⟩ := hc
  have he := hw.2.2.2.1
  unfold jwEp at h hf
  apply js_Wo_readEpoch
  simp only [a3]
  refine ⟨fun q => ?_, fun q => ?_⟩
  · have q1 : ¬ w.2.2.1 = 1 := fun z => by
      rw [jaIf1_t z, he.1] at q
      rw [nI_m1 (by omega)] at q
      exact q
    rw [jaIf1_f q1] at h hf
    refine sp_Rd_step (by omega) hR (fun S' s1 s2 s3 => ?_)
    have f1 : jtF2 τ (jaU τ 0 S') := jtF2.u s1 s2
    refine sp_Rd_num (i := i + 1) (X := X) (by omega) (by rw [jaU_eq]; exact s3) (by omega) (by omega) (fun v hv v9 τ' r1 r2 => ?_) (fun c p hv τ' r1 r2 => ?_)
    · rw [hv] at h
      have ek : τ' k = τ k := ((r2.1 k hk).trans (f1.1 k hk))
      simp only [jaU_eq, ek]
      have hp : ¬ (jaUI (τ k) 30 0 3 (nI v)).1 30 0 3 < 0 := by
        rw [jaUI_at, jaPt_eq]
        exact nI_pos (by omega)
      refine ⟨fun z => absurd z hp, fun _ => ⟨Or.inr rfl, ?_⟩⟩
      refine h (jaPt w.1 3 (nI v), w.2.1, 1, w.2.2.2) _ rfl _ ?_ ?_ (((f1.trans r2).c).trans (jcFr.k hk))
      · rw [jaU_eq]
        have z1 : jz (jaPt w.1 3 (nI v)) 1 = jz w.1 1 := jz_c (jaPt_ne (by decide))
        have z2 : jz (jaPt w.1 3 (nI v)) 2 = jz w.1 2 := jz_c (jaPt_ne (by decide))
        have h10 := hw.2.1.2
        have h3 := hw.2.2.1.2
        refine ⟨⟨?_, ?_, ?_, ?_, ?_⟩, fun q hq => ?_, fun c hc => ?_, fun c hc => ?_, fun j hj => ?_⟩
        · simp (disch := first | omega | decide) only [jaU_eq, jaU_U, nI_add, pk_mul, jaIx_nI, vp_inT, true_and, and_true, ↓jaO0, ↓jaO1, nI_z, nI_z2, nI_z3, nI_z4, nI_z5, nI_lt', nI_le', nI_eq', jaUI_at, jaPt_eq, jaPt_ne, jaUI_o, jaUI_2, jaUL_at, jaUL_o, jaUL_1, jaB_z, jaB_1, ↓jaB_01, Classical.not_not, and_self, true_or, or_true, nI_11, Nat.reduceEqDiff, Nat.reduceAdd, Nat.reduceMul, Nat.add_zero, Nat.zero_add, Nat.mul_zero, not_true_eq_false, not_false_eq_true, false_implies, true_implies, a0]
        · simp (disch := first | omega | decide) only [jaU_eq, jaU_U, nI_add, pk_mul, jaIx_nI, vp_inT, true_and, and_true, ↓jaO0, ↓jaO1, nI_z, nI_z2, nI_z3, nI_z4, nI_z5, nI_lt', nI_le', nI_eq', jaUI_at, jaPt_eq, jaPt_ne, jaUI_o, jaUI_2, jaUL_at, jaUL_o, jaUL_1, jaB_z, jaB_1, ↓jaB_01, Classical.not_not, and_self, true_or, or_true, nI_11, Nat.reduceEqDiff, Nat.reduceAdd, Nat.reduceMul, Nat.add_zero, Nat.zero_add, Nat.mul_zero, not_true_eq_false, not_false_eq_true, false_implies, true_implies, a1]
        · simp (disch := first | omega | decide) only [jaU_eq, jaU_U, nI_add, pk_mul, jaIx_nI, vp_inT, true_and, and_true, ↓jaO0, ↓jaO1, nI_z, nI_z2, nI_z3, nI_z4, nI_z5, nI_lt', nI_le', nI_eq', jaUI_at, jaPt_eq, jaPt_ne, jaUI_o, jaUI_2, jaUL_at, jaUL_o, jaUL_1, jaB_z, jaB_1, ↓jaB_01, Classical.not_not, and_self, true_or, or_true, nI_11, Nat.reduceEqDiff, Nat.reduceAdd, Nat.reduceMul, Nat.add_zero, Nat.zero_add, Nat.mul_zero, not_true_eq_false, not_false_eq_true, false_implies, true_implies, a2]
        · show _ = jaIf1 _ (jaPt w.1 3 (nI v) 3) _
          (try simp (disch := first | omega | decide) only [jaU_eq, jaU_U, nI_add, pk_mul, jaIx_nI, vp_inT, true_and, and_true, ↓jaO0, ↓jaO1, nI_z, nI_z2, nI_z3, nI_z4, nI_z5, nI_lt', nI_le', nI_eq', jaUI_at, jaPt_eq, jaPt_ne, jaUI_o, jaUI_2, jaUL_at, jaUL_o, jaUL_1, jaB_z, jaB_1, ↓jaB_01, Classical.not_not, and_self, true_or, or_true, nI_11, Nat.reduceEqDiff, Nat.reduceAdd, Nat.reduceMul, Nat.add_zero, Nat.zero_add, Nat.mul_zero, not_true_eq_false, not_false_eq_true, false_implies, true_implies, a3])
          first | done | exact (jaIf1_t trivial).symm
        · show _ = jaIf1 _ (jaPt w.1 3 (nI v) 4) _
          (try simp (disch := first | omega | decide) only [jaU_eq, jaU_U, nI_add, pk_mul, jaIx_nI, vp_inT, true_and, and_true, ↓jaO0, ↓jaO1, nI_z, nI_z2, nI_z3, nI_z4, nI_z5, nI_lt', nI_le', nI_eq', jaUI_at, jaPt_eq, jaPt_ne, jaUI_o, jaUI_2, jaUL_at, jaUL_o, jaUL_1, jaB_z, jaB_1, ↓jaB_01, Classical.not_not, and_self, true_or, or_true, nI_11, Nat.reduceEqDiff, Nat.reduceAdd, Nat.reduceMul, Nat.add_zero, Nat.zero_add, Nat.mul_zero, not_true_eq_false, not_false_eq_true, false_implies, true_implies, a4])
          first | done | exact (jaIf1_t trivial).symm
        · have hq : q < jz (jaPt w.1 3 (nI v)) 1 := hq
          rw [z1] at hq
          show _ = jaPt w.1 3 (nI v) (5 + q) ∧ _ = jaPt w.1 3 (nI v) (15 + q)
          rw [jaPt_ne (by omega), jaPt_ne (by omega), jaUI_o (by decide), jaUI_o (by decide)]
          exact b1 q hq
        · have hc : c < jz (jaPt w.1 3 (nI v)) 2 := hc
          rw [z2] at hc
          show _ = jaPt w.1 3 (nI v) (25 + c) ∧ _ = jaPt w.1 3 (nI v) (28 + c)
          rw [jaPt_ne (by omega), jaPt_ne (by omega), jaUI_o (by decide), jaUI_o (by decide)]
          exact b2 c hc
        · rw [jaUI_o (by decide)]
          exact b3 c hc
        · rw [jaUI_2]
          exact b4 j hj
      · rw [jaU_ne (Ne.symm hk)]
        exact r1
    · rw [hv] at hf
      have ek : τ' k = τ k := ((r2.1 k hk).trans (f1.1 k hk))
      simp only [jaU_eq, ek]
      refine ⟨fun _ => ⟨Or.inl rfl, ?_⟩, fun z => absurd (by rw [jaUI_at, jaPt_eq]; decide) z⟩
      refine hf c p rfl _ ?_ ⟨((f1.trans r2).c).trans (jcFr.k hk), by rw [jaU_eq, jaUI_o (by decide)]⟩
      rw [jaU_ne (Ne.symm hk)]
      exact r1
  · have q1 : w.2.2.1 = 1 := Classical.not_not.mp (fun z => q (jaIf1_f z))
    rw [jaIf1_t q1] at hf
    exact sp_Rd_fail (by omega) hR (fun S' s1 s2 s3 => ⟨Or.inl rfl, hf 3 i rfl _ (by rw [jaU_eq]; exact s3) ((jtF2.u s1 s2).c4 hk)⟩)

theorem sp_Wo_readLink {D : Nat} (hD : 3 ≤ D) {kk : Int32 → jaT → Prop} {τ : jaT} {X : jtX} {w : jwS} {k i : Nat} (hk : k ≠ 0) (hR : jtR (τ 0) X i) (hc : jcW (τ k) w) (hw : jwW w) (h : ∀ w' i', jwLi X w i = .inr (w', i') → ∀ τ', jcW (τ' k) w' → jtR (τ' 0) X i' → jcFr k τ τ' → kk (nI 1) τ') (hf : ∀ c p, jwLi X w i = .inl (c, p) → ∀ τ', jtFl (τ' 0) X c p → jcF4 k τ τ' → kk (nI 0) τ') : jaDe D jy_Wo_readLink [jcWo k, .inr (.inr (2, 0, 0))] τ (jaKi kk) := by
  obtain ⟨D, rfl, hD⟩ := jaSuc hD
  obtain ⟨⟨a0, a1, a2, a3, a4⟩, b1, b2, b3, b4⟩ := hc
  have he := hw.2.2.2.2.1
  unfold jwLi at h hf
  apply js_Wo_readLink
  simp only [a4]
  refine ⟨fun q => ?_, fun q => ?_⟩
  · have q1 : ¬ w.2.2.2 = 1 := fun z => by
      rw [jaIf1_t z, he.1] at q
      rw [nI_m1 (by omega)] at q
      exact q
    rw [jaIf1_f q1] at h hf
    refine sp_Rd_step (by omega) hR (fun S' s1 s2 s3 => ?_)
    have f1 : jtF2 τ (jaU τ 0 S') := jtF2.u s1 s2
    refine sp_Rd_num (i := i + 1) (X := X) (by omega) (by rw [jaU_eq]; exact s3) (by omega) (by omega) (fun v hv v9 τ' r1 r2 => ?_) (fun c p hv τ' r1 r2 => ?_)
    · rw [hv] at h
      have ek : τ' k = τ k := ((r2.1 k hk).trans (f1.1 k hk))
      simp only [jaU_eq, ek]
      have hp : ¬ (jaUI (τ k) 30 0 4 (nI v)).1 30 0 4 < 0 := by
        rw [jaUI_at, jaPt_eq]
        exact nI_pos (by omega)
      refine ⟨fun z => absurd z hp, fun _ => ⟨Or.inr rfl, ?_⟩⟩
      refine h (jaPt w.1 4 (nI v), w.2.1, w.2.2.1, 1) _ rfl _ ?_ ?_ (((f1.trans r2).c).trans (jcFr.k hk))
      · rw [jaU_eq]
        have z1 : jz (jaPt w.1 4 (nI v)) 1 = jz w.1 1 := jz_c (jaPt_ne (by decide))
        have z2 : jz (jaPt w.1 4 (nI v)) 2 = jz w.1 2 := jz_c (jaPt_ne (by decide))
        have h10 := hw.2.1.2
        have h3 := hw.2.2.1.2
        refine ⟨⟨?_, ?_, ?_, ?_, ?_⟩, fun q hq => ?_, fun c hc => ?_, fun c hc => ?_, fun j hj => ?_⟩
        · simp (disch := first | omega | decide) only [jaU_eq, jaU_U, nI_add, pk_mul, jaIx_nI, vp_inT, true_and, and_true, ↓jaO0, ↓jaO1, nI_z, nI_z2, nI_z3, nI_z4, nI_z5, nI_lt', nI_le', nI_eq', jaUI_at, jaPt_eq, jaPt_ne, jaUI_o, jaUI_2, jaUL_at, jaUL_o, jaUL_1, jaB_z, jaB_1, ↓jaB_01, Classical.not_not, and_self, true_or, or_true, nI_11, Nat.reduceEqDiff, Nat.reduceAdd, Nat.reduceMul, Nat.add_zero, Nat.zero_add, Nat.mul_zero, not_true_eq_false, not_false_eq_true, false_implies, true_implies, a0]
        · simp (disch := first | omega | decide) only [jaU_eq, jaU_U, nI_add, pk_mul, jaIx_nI, vp_inT, true_and, and_true, ↓jaO0, ↓jaO1, nI_z, nI_z2, nI_z3, nI_z4, nI_z5, nI_lt', nI_le', nI_eq', jaUI_at, jaPt_eq, jaPt_ne, jaUI_o, jaUI_2, jaUL_at, jaUL_o, jaUL_1, jaB_z, jaB_1, ↓jaB_01, Classical.not_not, and_self, true_or, or_true, nI_11, Nat.reduceEqDiff, Nat.reduceAdd, Nat.reduceMul, Nat.add_zero, Nat.zero_add, Nat.mul_zero, not_true_eq_false, not_false_eq_true, false_implies, true_implies, a1]
        · simp (disch := first | omega | decide) only [jaU_eq, jaU_U, nI_add, pk_mul, jaIx_nI, vp_inT, true_and, and_true, ↓jaO0, ↓jaO1, nI_z, nI_z2, nI_z3, nI_z4, nI_z5, nI_lt', nI_le', nI_eq', jaUI_at, jaPt_eq, jaPt_ne, jaUI_o, jaUI_2, jaUL_at, jaUL_o, jaUL_1, jaB_z, jaB_1, ↓jaB_01, Classical.not_not, and_self, true_or, or_true, nI_11, Nat.reduceEqDiff, Nat.reduceAdd, Nat.reduceMul, Nat.add_zero, Nat.zero_add, Nat.mul_zero, not_true_eq_false, not_false_eq_true, false_implies, true_implies, a2]
        · show _ = jaIf1 _ (jaPt w.1 4 (nI v) 3) _
          (try simp (disch := first | omega | decide) only [jaU_eq, jaU_U, nI_add, pk_mul, jaIx_nI, vp_inT, true_and, and_true, ↓jaO0, ↓jaO1, nI_z, nI_z2, nI_z3, nI_z4, nI_z5, nI_lt', nI_le', nI_eq', jaUI_at, jaPt_eq, jaPt_ne, jaUI_o, jaUI_2, jaUL_at, jaUL_o, jaUL_1, jaB_z, jaB_1, ↓jaB_01, Classical.not_not, and_self, true_or, or_true, nI_11, Nat.reduceEqDiff, Nat.reduceAdd, Nat.reduceMul, Nat.add_zero, Nat.zero_add, Nat.mul_zero, not_true_eq_false, not_false_eq_true, false_implies, true_implies, a3])
          first | done | exact (jaIf1_t trivial).symm
        · show _ = jaIf1 _ (jaPt w.1 4 (nI v) 4) _
          (try simp (disch := first | omega | decide) only [jaU_eq, jaU_U, nI_add, pk_mul, jaIx_nI, vp_inT, true_and, and_true, ↓jaO0, ↓jaO1, nI_z, nI_z2, nI_z3, nI_z4, nI_z5, nI_lt', nI_le', nI_eq', jaUI_at, jaPt_eq, jaPt_ne, jaUI_o, jaUI_2, jaUL_at, jaUL_o, jaUL_1, jaB_z, jaB_1, ↓jaB_01, Classical.not_not, and_self, true_or, or_true, nI_11, Nat.reduceEqDiff, Nat.reduceAdd, Nat.reduceMul, Nat.add_zero, Nat.zero_add, Nat.mul_zero, not_true_eq_false, not_false_eq_true, false_implies, true_implies, a4])
          first | done | exact (jaIf1_t trivial).symm
        · have hq : q < jz (jaPt w.1 4 (nI v)) 1 := hq
          rw [z1] at hq
          show _ = jaPt w.1 4 (nI v) (5 + q) ∧ _ = jaPt w.1 4 (nI v) (15 + q)
          rw [jaPt_ne (by omega), jaPt_ne (by omega), jaUI_o (by decide), jaUI_o (by decide)]
          exact b1 q hq
        · have hc : c < jz (jaPt w.1 4 (nI v)) 2 := hc
          rw [z2] at hc
          show _ = jaPt w.1 4 (nI v) (25 + c) ∧ _ = jaPt w.1 4 (nI v) (28 + c)
          rw [jaPt_ne (by omega), jaPt_ne (by omega), jaUI_o (by decide), jaUI_o (by decide)]
          exact b2 c hc
        · rw [jaUI_o (by decide)]
          exact b3 c hc
        · rw [jaUI_2]
          exact b4 j hj
      · rw [jaU_ne (Ne.symm hk)]
        exact r1
    · rw [hv] at hf
      have ek : τ' k = τ k := ((r2.1 k hk).trans (f1.1 k hk))
      simp only [jaU_eq, ek]
      refine ⟨fun _ => ⟨Or.inl rfl, ?_⟩, fun z => absurd (by rw [jaUI_at, jaPt_eq]; decide) z⟩
      refine hf c p rfl _ ?_ ⟨((f1.trans r2).c).trans (jcFr.k hk), by rw [jaU_eq, jaUI_o (by decide)]⟩
      rw [jaU_ne (Ne.symm hk)]
      exact r1
  · have q1 : w.2.2.2 = 1 := Classical.not_not.mp (fun z => q (jaIf1_f z))
    rw [jaIf1_t q1] at hf
    exact sp_Rd_fail (by omega) hR (fun S' s1 s2 s3 => ⟨Or.inl rfl, hf 3 i rfl _ (by rw [jaU_eq]; exact s3) ((jtF2.u s1 s2).c4 hk)⟩)
end
