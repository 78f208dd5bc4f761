section
/-! the class: names -/
theorem jtW_pos {X : jtX} {i : Nat} (h : jtTc (jtK X i) = 1) : 1 ≤ jtW X i := by
  have t0 : jtTc 0 = 4 := rfl
  have t1 : jtTc 1 = 0 := rfl
  have t2 : jtTc 2 = 2 := rfl
  unfold jtK at h
  by_cases q : jtFi X (jtA X i)
  · rw [jaIf1_t q] at h
    by_cases q2 : X.2.2 < X.2.1
    · rw [jaIf1_t q2, t0] at h; exact absurd h (by decide)
    · rw [jaIf1_f q2, t1] at h; exact absurd h (by decide)
  · rw [jaIf1_f q] at h
    unfold jtKa at h
    by_cases q1 : jtO (X.1 (jtA X i))
    · rw [jaIf1_t q1] at h
      by_cases q2 : (∀ q, jtA X i ≤ q → q < jtRn X (jtA X i) → jtD (X.1 q)) ∧ jtRn X (jtA X i) ≤ jtA X i + 3
      · rw [jaIf1_t q2, t2] at h; exact absurd h (by decide)
      · rw [jaIf1_f q2] at h
        by_cases q3 : (∀ q, jtA X i ≤ q → q < jtRn X (jtA X i) → jtL (X.1 q)) ∧ jtRn X (jtA X i) ≤ jtA X i + 7
        · have hA : jtA X i < X.2.1 := by
            unfold jtFi at q
            omega
          have hE := (jtE_s hA).1
          have hE2 : jtE X (jtA X i) = jtRn X (jtA X i) := jaIf1_t q1
          unfold jtW
          obtain ⟨n, hn⟩ : ∃ n, jtRn X (jtA X i) - jtA X i = n + 1 := ⟨jtRn X (jtA X i) - jtA X i - 1, by omega⟩
          rw [hn, jtWv]
          have := (q3.1 (jtA X i + n) (by omega) (by omega)).1
          omega
        · rw [jaIf1_f q3, t0] at h; exact absurd h (by decide)
    · rw [jaIf1_f q1] at h
      by_cases q2 : jtSg (X.1 (jtA X i))
      · rw [jaIf1_t q2] at h
        unfold jtSg at q2
        have := jtTc_w.mp h
        omega
      · rw [jaIf1_f q2, t0] at h; exact absurd h (by decide)
/-- names at hand, in the class -/
def jcN (T : jaS) (nm : Nat → Nat) : Prop := ∀ j, j < 16 → T.2 35 0 j = Int64.ofNat (nm j) ∧ nm j < 9223372036854775808
theorem sp_Wo_slotOf {D : Nat} (hD : 1 ≤ D) {kk : Int32 → jaT → Prop} {τ : jaT} {nm : Nat → Nat} {k f n w : Nat} (hn : jcN (τ k) nm) (hf : f + n ≤ 16) (hw9 : w < 9223372036854775808) (h : kk (jvOp (jnF nm f w n 0) nI) τ) : jaDe D jy_Wo_slotOf [jcWo k, .inr (.inl (Int64.ofNat w)), .inl (nI f), .inl (nI n)] τ (jaKi kk) := by
  obtain ⟨D, rfl, hD⟩ := jaSuc hD
  apply js_Wo_slotOf
  have L : ∀ m r, r + m = n → kk (jvOp (jnF nm f w m r) nI) τ → jc_Wo_slotOf_1 D kk k (Int64.ofNat w) (nI f) (nI n) (nI r) τ := by
    intro m
    induction m with
    | zero =>
      intro r hr hk
      apply jb_Wo_slotOf_1
      simp (disch := first | omega | decide) only [jaU_eq, jaU_U, nI_add, pk_mul, jaIx_nI, vp_inT, true_and, and_true, ↓jaO0, ↓jaO1, nI_z, nI_z2, nI_z3, nI_z4, nI_z5, nI_lt', nI_le', nI_eq', jaUI_at, jaPt_eq, jaPt_ne, jaUI_o, jaUI_2, jaUL_at, jaUL_o, jaUL_1, jaB_z, jaB_1, ↓jaB_01, Classical.not_not, and_self, true_or, or_true, nI_11, Nat.reduceEqDiff, Nat.reduceAdd, Nat.reduceMul, Nat.add_zero, Nat.zero_add, Nat.mul_zero, not_true_eq_false, not_false_eq_true, false_implies, true_implies]
      refine ⟨fun _ => ?_, fun q => absurd (by omega) q⟩
      exact hk
    | succ m ih =>
      intro r hr hk
      obtain ⟨n1, n2⟩ := hn (f + r) (by omega)
      rw [jnF] at hk
      apply jb_Wo_slotOf_1
      simp (disch := first | omega | decide) only [jaU_eq, jaU_U, nI_add, pk_mul, jaIx_nI, vp_inT, true_and, and_true, ↓jaO0, ↓jaO1, nI_z, nI_z2, nI_z3, nI_z4, nI_z5, nI_lt', nI_le', nI_eq', jaUI_at, jaPt_eq, jaPt_ne, jaUI_o, jaUI_2, jaUL_at, jaUL_o, jaUL_1, jaB_z, jaB_1, ↓jaB_01, Classical.not_not, and_self, true_or, or_true, nI_11, Nat.reduceEqDiff, Nat.reduceAdd, Nat.reduceMul, Nat.add_zero, Nat.zero_add, Nat.mul_zero, not_true_eq_false, not_false_eq_true, false_implies, true_implies, n1, lg_cmp_eq]
      rw [jaL_inj n2 hw9]
      refine ⟨fun q => absurd q (by omega), fun _ => ?_⟩
      refine ⟨fun q => absurd q (by omega), fun _ => ?_⟩
      refine ⟨fun q => ?_, fun q => ?_⟩
      · rw [jaIf1_f q] at hk
        exact ih (r + 1) (by omega) hk
      · rwa [jaIf1_t q] at hk
  exact L n 0 (by omega) h
/-- what a reader's call leaves -/
def jtF2 (τ τ' : jaT) : Prop := (∀ k, k ≠ 0 → τ' k = τ k) ∧ jtF (τ 0) (τ' 0) ∧ (τ' 0).2 = (τ 0).2
theorem jtF2.u {τ : jaT} {S' : jaS} (h : jtF (τ 0) S') (h2 : S'.2 = (τ 0).2) : jtF2 τ (jaU τ 0 S') :=
  ⟨fun k hk => jaU_ne hk, by rw [jaU_eq]; exact h, by rw [jaU_eq]; exact h2⟩
theorem jtF2.trans {τ τ' τ'' : jaT} (h : jtF2 τ τ') (h' : jtF2 τ' τ'') : jtF2 τ τ'' :=
  ⟨fun k hk => (h'.1 k hk).trans (h.1 k hk), fun o ho => (h'.2.1 o ho).trans (h.2.1 o ho), h'.2.2.trans h.2.2⟩
theorem sp_Wo_takeNamed {D : Nat} (hD : 2 ≤ D) {kk : Int32 → jaT → Prop} {τ : jaT} {X : jtX} {nm : Nat → Nat} {k i f n : Nat} (hR : jtR (τ 0) X i) (hn : jcN (τ k) nm) (hf : f + n ≤ 16) (h : ∀ r, jtK X i = 3 → jnF nm f (jtW X i) n 0 = some r → ∀ τ', jtR (τ' 0) X (i + 1) → jtF2 τ τ' → kk (nI r) τ') (h3 : jtK X i = 3 → jnF nm f (jtW X i) n 0 = none → ∀ τ', jtFl (τ' 0) X 3 i → jtF2 τ τ' → kk (-1) τ') (h1 : jtK X i ≠ 3 → ∀ τ', jtFl (τ' 0) X 1 i → jtF2 τ τ' → kk (-1) τ') : jaDe D jy_Wo_takeNamed [jcWo k, .inr (.inr (2, 0, 0)), .inl (nI f), .inl (nI n)] τ (jaKi kk) := by
  have hK := hR.x
  obtain ⟨D, rfl, hD⟩ := jaSuc hD
  apply js_Wo_takeNamed
  refine sp_Rd_kind (by omega) hR ?_
  simp (disch := first | omega | decide) only [jaU_eq, jaU_U, nI_add, pk_mul, jaIx_nI, vp_inT, true_and, and_true, ↓jaO0, ↓jaO1, nI_z, nI_z2, nI_z3, nI_z4, nI_z5, nI_lt', nI_le', nI_eq', jaUI_at, jaPt_eq, jaPt_ne, jaUI_o, jaUI_2, jaUL_at, jaUL_o, jaUL_1, jaB_z, jaB_1, ↓jaB_01, Classical.not_not, and_self, true_or, or_true, nI_11, Nat.reduceEqDiff, Nat.reduceAdd, Nat.reduceMul, Nat.add_zero, Nat.zero_add, Nat.mul_zero, not_true_eq_false, not_false_eq_true, false_implies, true_implies]
  refine ⟨fun q => ?_, fun q => sp_Rd_fail (by omega) hR (fun S' a b c => h1 q _ (by rw [jaU_eq]; exact c) (jtF2.u a b))⟩
  have q1 := jtTc_w.mpr (Or.inl q)
  obtain ⟨k1, k2⟩ := jtW_k hR.1 q1
  refine sp_Rd_content (by omega) hR (fun V _ v3 => ?_)
  rw [v3 q]
  refine sp_Wo_slotOf (by omega) hn hf k2 ?_
  rcases ho : jnF nm f (jtW X i) n 0 with _ | r
  · refine ⟨fun z => absurd (show (0 : Int32) ≤ -1 from z) (by decide), fun _ => ?_⟩
    exact sp_Rd_fail (by omega) hR (fun S' a b c => h3 q ho _ (by rw [jaU_eq]; exact c) (jtF2.u a b))
  · have hlt := jnF_lt _ _ ho
    refine ⟨fun _ => ?_, fun z => absurd (show (0 : Int32) ≤ nI r from nI_pos' (by omega)) z⟩
    exact sp_Rd_step (by omega) hR (fun S' a b c => h r q ho _ (by rw [jaU_eq]; exact c) (jtF2.u a b))
theorem sp_Wo_isKeyNext {D : Nat} (hD : 2 ≤ D) {kk : Int32 → jaT → Prop} {τ : jaT} {X : jtX} {nm : Nat → Nat} {k i n : Nat} (hR : jtR (τ 0) X i) (hn : jcN (τ k) nm) (hk : (τ k).1 30 0 1 = nI n) (hf : n ≤ 10) (h : kk (jaB (jtK X i = 3 ∧ jnF nm 3 (jtW X i) n 0 ≠ none)) τ) : jaDe D jy_Wo_isKeyNext [jcWo k, .inr (.inr (2, 0, 0))] τ (jaKi kk) := by
  have hK := hR.x
  obtain ⟨D, rfl, hD⟩ := jaSuc hD
  apply js_Wo_isKeyNext
  refine sp_Rd_kind (by omega) hR ?_
  simp (disch := first | omega | decide) only [jaU_eq, jaU_U, nI_add, pk_mul, jaIx_nI, vp_inT, true_and, and_true, ↓jaO0, ↓jaO1, nI_z, nI_z2, nI_z3, nI_z4, nI_z5, nI_lt', nI_le', nI_eq', jaUI_at, jaPt_eq, jaPt_ne, jaUI_o, jaUI_2, jaUL_at, jaUL_o, jaUL_1, jaB_z, jaB_1, ↓jaB_01, Classical.not_not, and_self, true_or, or_true, nI_11, Nat.reduceEqDiff, Nat.reduceAdd, Nat.reduceMul, Nat.add_zero, Nat.zero_add, Nat.mul_zero, not_true_eq_false, not_false_eq_true, false_implies, true_implies, hk]
  refine ⟨fun q => ?_, fun q => ?_⟩
  · rwa [jaB_f (fun z => q z.1)] at h
  · have q1 := jtTc_w.mpr (Or.inl q)
    obtain ⟨k1, k2⟩ := jtW_k hR.1 q1
    refine sp_Rd_content (by omega) hR (fun V _ v3 => ?_)
    rw [v3 q, hk]
    refine sp_Wo_slotOf (by omega) hn (by omega) k2 ?_
    rcases ho : jnF nm 3 (jtW X i) n 0 with _ | r
    · rw [jaB_f (fun z => z.2 ho)] at h
      exact ⟨fun _ => h, fun z => absurd (show (-1 : Int32) < 0 by decide) z⟩
    · have hlt := jnF_lt _ _ ho
      rw [jaB_t ⟨q, by rw [ho]; exact fun z => by cases z⟩] at h
      exact ⟨fun z => absurd z (nI_pos (by omega)), fun _ => h⟩
end
