section
/-! the class's reader, asked -/
theorem jtA_st {X : jtX} {m : Nat} (h : jtFi X (jtA X m)) : ∀ n, jtA X (m + n) = jtA X m
  | 0 => rfl
  | n + 1 => by
    have ih := jtA_st h n
    show jtSk X (jtP X (m + n + 1)) = _
    rw [jtP_s, ih, jaIf1_t h]
    exact jtSk_u (Nat.le_refl _) (fun q h1 h2 => absurd h2 (by omega)) (jtSk_s X (jtP X m)).2.2
theorem jtA_min {X : jtX} {N i : Nat} (hN : 1 ≤ N) (h : jtFi X (jtA X (N - 1))) : jtA X (min i (N - 1)) = jtA X i := by
  rcases Nat.lt_or_ge i N with q | q
  · rw [Nat.min_eq_left (by omega)]
  · rw [Nat.min_eq_right (by omega)]
    have := jtA_st h (i - (N - 1))
    rw [show N - 1 + (i - (N - 1)) = i by omega] at this
    exact this.symm
theorem jtK_c {X : jtX} {i j : Nat} (h : jtA X i = jtA X j) : jtK X i = jtK X j ∧ jtAt X i = jtAt X j ∧ jtV X i = jtV X j ∧ jtW X i = jtW X j := by
  unfold jtK jtAt jtV jtW
  rw [h]
  exact ⟨rfl, rfl, rfl, rfl⟩
/-- what is at hand -/
theorem jtR.at {S : jaS} {X : jtX} {i : Nat} (h : jtR S X i) : ∃ N, ∃ j, j < N ∧ N ≤ 941 ∧ S.1 2 0 3 = nI N ∧ S.1 2 0 4 = nI j ∧ S.1 3 0 j = nI (jtK X i) ∧ S.1 4 0 j = nI (jtAt X i) ∧ (jtK X i = 2 → S.2 5 0 j = Int64.ofNat (jtV X i)) ∧ (jtK X i = 3 → S.2 5 0 j = Int64.ofNat (jtW X i)) := by
  obtain ⟨-, N, h1, h2, hC, h3, h4, h5⟩ := h
  obtain ⟨a, b, c, d⟩ := hC (min i (N - 1)) (by omega)
  obtain ⟨e1, e2, e3, e4⟩ := jtK_c (jtA_min (i := i) h1 h5)
  rw [e1] at a c d
  rw [e2] at b
  rw [e3] at c
  rw [e4] at d
  exact ⟨N, min i (N - 1), by omega, h2, h3, h4, a, b, c, d⟩
theorem sp_Rd_kind {D : Nat} (hD : 1 ≤ D) {kk : Int32 → jaT → Prop} {τ : jaT} {X : jtX} {i : Nat} (hR : jtR (τ 0) X i) (h : kk (nI (jtK X i)) τ) : jaDe D jy_Rd_kind [.inr (.inr (2, 0, 0))] τ (jaKi kk) := by
  obtain ⟨N, j, h1, h2, a3, a4, k3, -⟩ := hR.at
  obtain ⟨D, rfl, hD⟩ := jaSuc hD
  apply js_Rd_kind
  simp (disch := first | omega | decide) only [jaU_eq, jaU_U, nI_add, pk_mul, jaIx_nI, vp_inT, true_and, and_true, ↓jaO0, ↓jaO1, nI_z, nI_z2, nI_z3, nI_z4, nI_z5, nI_lt', nI_le', nI_eq', jaUI_at, jaPt_eq, jaPt_ne, jaUI_o, jaUI_2, jaUL_at, jaUL_o, jaUL_1, jaB_z, jaB_1, ↓jaB_01, Classical.not_not, and_self, true_or, or_true, nI_11, Nat.reduceEqDiff, Nat.reduceAdd, Nat.reduceMul, Nat.add_zero, Nat.zero_add, Nat.mul_zero, not_true_eq_false, not_false_eq_true, false_implies, true_implies, a3, a4, k3]
  refine ⟨fun q => absurd q (by omega), fun _ => ?_⟩
  exact h
theorem sp_Rd_content {D : Nat} (hD : 1 ≤ D) {kk : Int64 → jaT → Prop} {τ : jaT} {X : jtX} {i : Nat} (hR : jtR (τ 0) X i) (h : ∀ V, (jtK X i = 2 → V = Int64.ofNat (jtV X i)) → (jtK X i = 3 → V = Int64.ofNat (jtW X i)) → kk V τ) : jaDe D jy_Rd_content [.inr (.inr (2, 0, 0))] τ (jaKl kk) := by
  obtain ⟨N, j, h1, h2, a3, a4, -, -, k2, k3⟩ := hR.at
  obtain ⟨D, rfl, hD⟩ := jaSuc hD
  apply js_Rd_content
  simp (disch := first | omega | decide) only [jaU_eq, jaU_U, nI_add, pk_mul, jaIx_nI, vp_inT, true_and, and_true, ↓jaO0, ↓jaO1, nI_z, nI_z2, nI_z3, nI_z4, nI_z5, nI_lt', nI_le', nI_eq', jaUI_at, jaPt_eq, jaPt_ne, jaUI_o, jaUI_2, jaUL_at, jaUL_o, jaUL_1, jaB_z, jaB_1, ↓jaB_01, Classical.not_not, and_self, true_or, or_true, nI_11, Nat.reduceEqDiff, Nat.reduceAdd, Nat.reduceMul, Nat.add_zero, Nat.zero_add, Nat.mul_zero, not_true_eq_false, not_false_eq_true, false_implies, true_implies, a3, a4]
  refine ⟨fun q => absurd q (by omega), fun _ => ?_⟩
  exact h _ k2 k3
theorem jtR.st {S S' : jaS} {X : jtX} {i i' : Nat} (hR : jtR S X i) (h3 : S'.1 3 = S.1 3) (h4 : S'.1 4 = S.1 4) (h5 : S'.2 = S.2) (hm : S'.1 2 0 3 = S.1 2 0 3) (hi : ∀ N, S.1 2 0 3 = nI N → S.1 2 0 4 = nI (min i (N - 1)) → N ≤ 941 → S'.1 2 0 4 = nI (min i' (N - 1))) : jtR S' X i' := by
  obtain ⟨hX, N, a, b, c, d, e, f⟩ := hR
  exact ⟨hX, N, a, b, fun j hj => by rw [h3, h4, h5]; exact c j hj, hm.trans d, hi N d e b, f⟩
theorem sp_Rd_step {D : Nat} (hD : 1 ≤ D) {kk : jaT → Prop} {τ : jaT} {X : jtX} {i : Nat} (hR : jtR (τ 0) X i) (h : ∀ S', jtF (τ 0) S' → S'.2 = (τ 0).2 → jtR S' X (i + 1) → kk (jaU τ 0 S')) : jaDe D jy_Rd_step [.inr (.inr (2, 0, 0))] τ (jaKv kk) := by
  have hR' := hR
  obtain ⟨hX, N, h1, h2, hC, a3, a4, hF⟩ := hR'
  obtain ⟨D, rfl, hD⟩ := jaSuc hD
  apply js_Rd_step
  simp (disch := first | omega | decide) only [jaU_eq, jaU_U, nI_add, pk_mul, jaIx_nI, vp_inT, true_and, and_true, ↓jaO0, ↓jaO1, nI_z, nI_z2, nI_z3, nI_z4, nI_z5, nI_lt', nI_le', nI_eq', jaUI_at, jaPt_eq, jaPt_ne, jaUI_o, jaUI_2, jaUL_at, jaUL_o, jaUL_1, jaB_z, jaB_1, ↓jaB_01, Classical.not_not, and_self, true_or, or_true, nI_11, Nat.reduceEqDiff, Nat.reduceAdd, Nat.reduceMul, Nat.add_zero, Nat.zero_add, Nat.mul_zero, not_true_eq_false, not_false_eq_true, false_implies, true_implies, a3, a4]
  refine ⟨fun q => ?_, fun q => ?_⟩
  · have := h (τ 0) (fun _ _ => rfl) rfl ⟨hX, N, h1, h2, hC, a3, by rw [a4, show min (i + 1) (N - 1) = min i (N - 1) by omega], hF⟩
    rwa [jaU_self] at this
  · refine h _ (fun o ho => by rw [jaUI_o (by omega)]) rfl ⟨hX, N, h1, h2, fun j hj => ?_, ?_, ?_, hF⟩
    · simp (disch := first | omega | decide) only [jaU_eq, jaU_U, nI_add, pk_mul, jaIx_nI, vp_inT, true_and, and_true, ↓jaO0, ↓jaO1, nI_z, nI_z2, nI_z3, nI_z4, nI_z5, nI_lt', nI_le', nI_eq', jaUI_at, jaPt_eq, jaPt_ne, jaUI_o, jaUI_2, jaUL_at, jaUL_o, jaUL_1, jaB_z, jaB_1, ↓jaB_01, Classical.not_not, and_self, true_or, or_true, nI_11, Nat.reduceEqDiff, Nat.reduceAdd, Nat.reduceMul, Nat.add_zero, Nat.zero_add, Nat.mul_zero, not_true_eq_false, not_false_eq_true, false_implies, true_implies]
      exact hC j hj
    · simp (disch := first | omega | decide) only [jaU_eq, jaU_U, nI_add, pk_mul, jaIx_nI, vp_inT, true_and, and_true, ↓jaO0, ↓jaO1, nI_z, nI_z2, nI_z3, nI_z4, nI_z5, nI_lt', nI_le', nI_eq', jaUI_at, jaPt_eq, jaPt_ne, jaUI_o, jaUI_2, jaUL_at, jaUL_o, jaUL_1, jaB_z, jaB_1, ↓jaB_01, Classical.not_not, and_self, true_or, or_true, nI_11, Nat.reduceEqDiff, Nat.reduceAdd, Nat.reduceMul, Nat.add_zero, Nat.zero_add, Nat.mul_zero, not_true_eq_false, not_false_eq_true, false_implies, true_implies, a3]
    · rw [jaUI_at, jaPt_eq, show min (i + 1) (N - 1) = min i (N - 1) + 1 by omega]
/-- it failed so, there -/
def jtFl (S : jaS) (X : jtX) (k i : Nat) : Prop := S.1 2 0 5 = nI k ∧ S.1 2 0 6 = nI (jtAt X i)
theorem sp_Rd_fail {D : Nat} (hD : 1 ≤ D) {kk : Int32 → jaT → Prop} {τ : jaT} {X : jtX} {i k : Nat} (hR : jtR (τ 0) X i) (h : ∀ S', jtF (τ 0) S' → S'.2 = (τ 0).2 → jtFl S' X k i → kk (nI 0) (jaU τ 0 S')) : jaDe D jy_Rd_fail [.inr (.inr (2, 0, 0)), .inl (nI k)] τ (jaKi kk) := by
  obtain ⟨N, j, h1, h2, a3, a4, -, k4, -⟩ := hR.at
  obtain ⟨D, rfl, hD⟩ := jaSuc hD
  apply js_Rd_fail
  simp (disch := first | omega | decide) only [jaU_eq, jaU_U, nI_add, pk_mul, jaIx_nI, vp_inT, true_and, and_true, ↓jaO0, ↓jaO1, nI_z, nI_z2, nI_z3, nI_z4, nI_z5, nI_lt', nI_le', nI_eq', jaUI_at, jaPt_eq, jaPt_ne, jaUI_o, jaUI_2, jaUL_at, jaUL_o, jaUL_1, jaB_z, jaB_1, ↓jaB_01, Classical.not_not, and_self, true_or, or_true, nI_11, Nat.reduceEqDiff, Nat.reduceAdd, Nat.reduceMul, Nat.add_zero, Nat.zero_add, Nat.mul_zero, not_true_eq_false, not_false_eq_true, false_implies, true_implies, a3, a4, k4]
  refine ⟨fun q => absurd q (by omega), fun _ => ?_⟩
  refine h _ (fun o ho => by rw [jaUI_o (by omega), jaUI_o (by omega)]) rfl ⟨?_, ?_⟩
  · simp (disch := first | omega | decide) only [jaU_eq, jaU_U, nI_add, pk_mul, jaIx_nI, vp_inT, true_and, and_true, ↓jaO0, ↓jaO1, nI_z, nI_z2, nI_z3, nI_z4, nI_z5, nI_lt', nI_le', nI_eq', jaUI_at, jaPt_eq, jaPt_ne, jaUI_o, jaUI_2, jaUL_at, jaUL_o, jaUL_1, jaB_z, jaB_1, ↓jaB_01, Classical.not_not, and_self, true_or, or_true, nI_11, Nat.reduceEqDiff, Nat.reduceAdd, Nat.reduceMul, Nat.add_zero, Nat.zero_add, Nat.mul_zero, not_true_eq_false, not_false_eq_true, false_implies, true_implies]
  · simp (disch := first | omega | decide) only [jaU_eq, jaU_U, nI_add, pk_mul, jaIx_nI, vp_inT, true_and, and_true, ↓jaO0, ↓jaO1, nI_z, nI_z2, nI_z3, nI_z4, nI_z5, nI_lt', nI_le', nI_eq', jaUI_at, jaPt_eq, jaPt_ne, jaUI_o, jaUI_2, jaUL_at, jaUL_o, jaUL_1, jaB_z, jaB_1, ↓jaB_01, Classical.not_not, and_self, true_or, or_true, nI_11, Nat.reduceEqDiff, Nat.reduceAdd, Nat.reduceMul, Nat.add_zero, Nat.zero_add, Nat.mul_zero, not_true_eq_false, not_false_eq_true, false_implies, true_implies]
theorem jtKl_le : ∀ (l : List Nat) (k w : Nat), 3 ≤ k → 3 ≤ jtKl l k w ∧ jtKl l k w ≤ k + l.length
  | [], k, w, h => by rw [jtKl]; exact ⟨by omega, by omega⟩
  | c :: l, k, w, h => by
    rw [jtKl, List.length_cons]
    by_cases q : c = w
    · rw [if_pos q]; omega
    · rw [if_neg q]
      have := jtKl_le l (k + 1) w (by omega)
      omega
theorem jtKa_lt {X : jtX} (hX : ∀ q, X.1 q < 256) {a : Nat} : jtKa X a < 256 := by
  unfold jtKa
  have h1 := jtKl_le jtWs 100 (jtWv X a (jtRn X a - a)) (by decide)
  have h2 : jtWs.length = 29 := by decide
  have h3 := hX a
  have h4 : jtKw (jtWv X a (jtRn X a - a)) < 256 := by
    unfold jtKw
    omega
  by_cases q1 : jtO (X.1 a)
  · rw [jaIf1_t q1]
    by_cases q2 : (∀ q, a ≤ q → q < jtRn X a → jtD (X.1 q)) ∧ jtRn X a ≤ a + 3
    · rw [jaIf1_t q2]; decide
    · rw [jaIf1_f q2]
      by_cases q3 : (∀ q, a ≤ q → q < jtRn X a → jtL (X.1 q)) ∧ jtRn X a ≤ a + 7
      · rw [jaIf1_t q3]; exact h4
      · rw [jaIf1_f q3]; decide
  · rw [jaIf1_f q1]
    by_cases q2 : jtSg (X.1 a)
    · rw [jaIf1_t q2]; exact h3
    · rw [jaIf1_f q2]; decide
theorem jtK_lt {X : jtX} (hX : ∀ q, X.1 q < 256) {i : Nat} : jtK X i < 256 := by
  unfold jtK
  by_cases q : jtFi X (jtA X i)
  · rw [jaIf1_t q]
    by_cases q2 : X.2.2 < X.2.1
    · rw [jaIf1_t q2]; decide
    · rw [jaIf1_f q2]; decide
  · rw [jaIf1_f q]
    exact jtKa_lt hX
theorem jtR.x {S : jaS} {X : jtX} {i : Nat} (h : jtR S X i) : jtK X i < 256 := jtK_lt h.1
theorem sp_Rd_take {D : Nat} (hD : 2 ≤ D) {kk : Int32 → jaT → Prop} {τ : jaT} {X : jtX} {i c : Nat} (hR : jtR (τ 0) X i) (hc : c < 1000) (h : jtK X i = c → ∀ S', jtF (τ 0) S' → S'.2 = (τ 0).2 → jtR S' X (i + 1) → kk (nI 1) (jaU τ 0 S')) (h0 : jtK X i ≠ c → ∀ S', jtF (τ 0) S' → S'.2 = (τ 0).2 → jtFl S' X 1 i → kk (nI 0) (jaU τ 0 S')) : jaDe D jy_Rd_take [.inr (.inr (2, 0, 0)), .inl (nI c)] τ (jaKi kk) := by
  have hK := hR.x
  obtain ⟨D, rfl, hD⟩ := jaSuc hD
  apply js_Rd_take
  refine sp_Rd_kind (by omega) hR ?_
  simp (disch := first | omega | decide) only [jaU_eq, jaU_U, nI_add, pk_mul, jaIx_nI, vp_inT, true_and, and_true, ↓jaO0, ↓jaO1, nI_z, nI_z2, nI_z3, nI_z4, nI_z5, nI_lt', nI_le', nI_eq', jaUI_at, jaPt_eq, jaPt_ne, jaUI_o, jaUI_2, jaUL_at, jaUL_o, jaUL_1, jaB_z, jaB_1, ↓jaB_01, Classical.not_not, and_self, true_or, or_true, nI_11, Nat.reduceEqDiff, Nat.reduceAdd, Nat.reduceMul, Nat.add_zero, Nat.zero_add, Nat.mul_zero, not_true_eq_false, not_false_eq_true, false_implies, true_implies]
  refine ⟨fun q => sp_Rd_step (by omega) hR (fun S' a b c => h q S' a b c), fun q => sp_Rd_fail (by omega) hR (fun S' a b c => ⟨Or.inl rfl, h0 q S' a b c⟩)⟩
theorem jaL_ti {a : Nat} (ha : a < 9223372036854775808) : (Int64.ofNat a).toInt = a := by
  rw [Int64.toInt_ofNat', Int.bmod_eq_of_le (by have e : Int64.size = 18446744073709551616 := rfl; omega) (by have e : Int64.size = 18446744073709551616 := rfl; omega)]
theorem jaL_lt {a b : Nat} (ha : a < 2147483648) (hb : b < 2147483648) : (lg_cmp (Int64.ofNat a) (Int32.toInt64 (nI b)) < 0 ↔ a < b) ∧ (lg_cmp (Int64.ofNat a) (Int32.toInt64 (nI b)) ≤ 0 ↔ a ≤ b) := by
  rw [lg_cmp_lt, lg_cmp_le, Int64.lt_iff_toInt_lt, Int64.le_iff_toInt_le, Int32.toInt_toInt64, nI_toInt hb, jaL_ti (by omega)]
  omega
theorem jaL_32 {a : Nat} (ha : a < 2147483648) : Int64.toInt32 (Int64.ofNat a) = nI a := by
  apply Int32.toInt_inj.mp
  rw [nI_toInt ha, Int64.toInt_toInt32, jaL_ti (by omega), Int.bmod_eq_of_le (by omega) (by omega)]
/-- a number's token says little -/
theorem jtV_lt {X : jtX} (hX : ∀ q, X.1 q < 256) {i : Nat} (h : jtK X i = 2) : jtV X i < 1000 := by
  have hw : ∀ w, jtKw w ≠ 2 := fun w => by
    have := (jtKl_le jtWs 100 w (by decide)).1
    unfold jtKw
    omega
  unfold jtK at h
  by_cases q : jtFi X (jtA X i)
  · rw [jaIf1_t q] at h
    by_cases q2 : X.2.2 < X.2.1
    · rw [jaIf1_t q2] at h; exact absurd h (by decide)
    · rw [jaIf1_f q2] at h; exact absurd h (by decide)
  · rw [jaIf1_f q] at h
    unfold jtKa at h
    by_cases q1 : jtO (X.1 (jtA X i))
    · rw [jaIf1_t q1] at h
      by_cases q2 : (∀ q, jtA X i ≤ q → q < jtRn X (jtA X i) → jtD (X.1 q)) ∧ jtRn X (jtA X i) ≤ jtA X i + 3
      · unfold jtV
        have hr := (jtRn_s X (jtA X i)).1
        have hd : ∀ n, n ≤ jtRn X (jtA X i) - jtA X i → n ≤ 3 → jtNv X (jtA X i) n < 10 ^ n := by
          intro n
          induction n with
          | zero => intro _ _; rw [jtNv]; decide
          | succ n ih =>
            intro h1 h2
            have h3 := ih (by omega) (by omega)
            have h4 := (q2.1 (jtA X i + n) (by omega) (by omega)).2
            rw [jtNv, Nat.pow_succ]
            omega
        have h5 := hd (jtRn X (jtA X i) - jtA X i) (Nat.le_refl _) (by omega)
        have h6 : 10 ^ (jtRn X (jtA X i) - jtA X i) ≤ 10 ^ 3 := Nat.pow_le_pow_right (by decide) (by omega)
        omega
      · rw [jaIf1_f q2] at h
        by_cases q3 : (∀ q, jtA X i ≤ q → q < jtRn X (jtA X i) → jtL (X.1 q)) ∧ jtRn X (jtA X i) ≤ jtA X i + 7
        · rw [jaIf1_t q3] at h; exact absurd h (hw _)
        · rw [jaIf1_f q3] at h; exact absurd h (by decide)
    · rw [jaIf1_f q1] at h
      by_cases q2 : jtSg (X.1 (jtA X i))
      · rw [jaIf1_t q2] at h
        unfold jtSg at q2
        omega
      · rw [jaIf1_f q2] at h; exact absurd h (by decide)
theorem sp_Rd_takeNumber {D : Nat} (hD : 2 ≤ D) {kk : Int32 → jaT → Prop} {τ : jaT} {X : jtX} {i lo hi : Nat} (hR : jtR (τ 0) X i) (hlo : lo < 2147483648) (hhi : hi < 2147483648) (h : jtK X i = 2 → lo ≤ jtV X i → jtV X i ≤ hi → ∀ S', jtF (τ 0) S' → S'.2 = (τ 0).2 → jtR S' X (i + 1) → kk (nI (jtV X i)) (jaU τ 0 S')) (h2 : jtK X i = 2 → ¬ (lo ≤ jtV X i ∧ jtV X i ≤ hi) → ∀ S', jtF (τ 0) S' → S'.2 = (τ 0).2 → jtFl S' X 2 i → kk (-1) (jaU τ 0 S')) (h1 : jtK X i ≠ 2 → ∀ S', jtF (τ 0) S' → S'.2 = (τ 0).2 → jtFl S' X 1 i → kk (-1) (jaU τ 0 S')) : jaDe D jy_Rd_takeNumber [.inr (.inr (2, 0, 0)), .inl (nI lo), .inl (nI hi)] τ (jaKi kk) := by
  have hK := hR.x
  obtain ⟨D, rfl, hD⟩ := jaSuc hD
  apply js_Rd_takeNumber
  refine sp_Rd_kind (by omega) hR ?_
  simp (disch := first | omega | decide) only [jaU_eq, jaU_U, nI_add, pk_mul, jaIx_nI, vp_inT, true_and, and_true, ↓jaO0, ↓jaO1, nI_z, nI_z2, nI_z3, nI_z4, nI_z5, nI_lt', nI_le', nI_eq', jaUI_at, jaPt_eq, jaPt_ne, jaUI_o, jaUI_2, jaUL_at, jaUL_o, jaUL_1, jaB_z, jaB_1, ↓jaB_01, Classical.not_not, and_self, true_or, or_true, nI_11, Nat.reduceEqDiff, Nat.reduceAdd, Nat.reduceMul, Nat.add_zero, Nat.zero_add, Nat.mul_zero, not_true_eq_false, not_false_eq_true, false_implies, true_implies]
  refine ⟨fun q => ?_, fun q => sp_Rd_fail (by omega) hR (fun S' a b c => h1 q S' a b c)⟩
  have hv := jtV_lt hR.1 q
  refine sp_Rd_content (by omega) hR (fun V v2 _ => ?_)
  rw [v2 q]
  simp only [jaL_lt (show jtV X i < 2147483648 by omega) hlo, jaL_lt (show jtV X i < 2147483648 by omega) hhi, jaL_32 (show jtV X i < 2147483648 by omega)]
  refine ⟨fun z => sp_Rd_fail (by omega) hR (fun S' a b c => h2 q (by omega) S' a b c), fun z => ⟨fun z2 => sp_Rd_step (by omega) hR (fun S' a b c => h q (by omega) z2 S' a b c), fun z2 => sp_Rd_fail (by omega) hR (fun S' a b c => h2 q (by omega) S' a b c)⟩⟩
theorem sp_Rd_takeCompare {D : Nat} (hD : 2 ≤ D) {kk : Int32 → jaT → Prop} {τ : jaT} {X : jtX} {i : Nat} (hR : jtR (τ 0) X i) (h : 60 ≤ jtK X i → jtK X i ≤ 62 → ∀ S', jtF (τ 0) S' → S'.2 = (τ 0).2 → jtR S' X (i + 1) → kk (nI (jtK X i)) (jaU τ 0 S')) (h1 : ¬ (60 ≤ jtK X i ∧ jtK X i ≤ 62) → ∀ S', jtF (τ 0) S' → S'.2 = (τ 0).2 → jtFl S' X 1 i → kk (-1) (jaU τ 0 S')) : jaDe D jy_Rd_takeCompare [.inr (.inr (2, 0, 0))] τ (jaKi kk) := by
  have hK := hR.x
  obtain ⟨D, rfl, hD⟩ := jaSuc hD
  apply js_Rd_takeCompare
  refine sp_Rd_kind (by omega) hR ?_
  simp (disch := first | omega | decide) only [jaU_eq, jaU_U, nI_add, pk_mul, jaIx_nI, vp_inT, true_and, and_true, ↓jaO0, ↓jaO1, nI_z, nI_z2, nI_z3, nI_z4, nI_z5, nI_lt', nI_le', nI_eq', jaUI_at, jaPt_eq, jaPt_ne, jaUI_o, jaUI_2, jaUL_at, jaUL_o, jaUL_1, jaB_z, jaB_1, ↓jaB_01, Classical.not_not, and_self, true_or, or_true, nI_11, Nat.reduceEqDiff, Nat.reduceAdd, Nat.reduceMul, Nat.add_zero, Nat.zero_add, Nat.mul_zero, not_true_eq_false, not_false_eq_true, false_implies, true_implies]
  refine ⟨fun q => sp_Rd_step (by omega) hR (fun S' a b c => h (by omega) (by omega) S' a b c), fun q => ⟨fun q2 => sp_Rd_step (by omega) hR (fun S' a b c => h (by omega) (by omega) S' a b c), fun q2 => ⟨fun q3 => sp_Rd_step (by omega) hR (fun S' a b c => h (by omega) (by omega) S' a b c), fun q3 => sp_Rd_fail (by omega) hR (fun S' a b c => h1 (by omega) S' a b c)⟩⟩⟩
end
