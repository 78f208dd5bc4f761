section
/-! the reference: faults, numbers, names -/
abbrev jmG : List Nat := [4, 14, 15, 16, 17, 18, 19, 20, 21]
def jmFl (S : jaS) (X : jtX) (k i : Nat) : Prop := S.1 70 0 18 = nI k ∧ S.1 70 0 19 = nI (jtAt X i)
theorem sp_M_bad {D : Nat} (hD : 1 ≤ D) {kk : Int32 → jaT → Prop} {σ : jaT} {S : jaS} {X : jtX} {i k : Nat} (hR : jmN S X i) (h : ∀ S', jmFl S' X k i → jaFr [] jmG S S' → kk (nI 0) (jaU σ 20 S')) : jaDe D jy_M_bad [jaMo, .inl (nI k)] (jaU σ 20 S) (jaKi kk) := by
  have e := hR.1.2.2.2.2.2.2.1
  obtain ⟨D, rfl, hD⟩ := jaSuc hD
  apply js_M_bad
  simp (disch := first | omega | decide) only [jaU_eq, jaU_U, nI_add, pk_mul, jaIx_nI, vp_inT, true_and, and_true, ↓jaO0, ↓jaO1, nI_z, nI_z2, nI_z3, nI_z4, nI_z5, nI_lt', nI_le', nI_eq', jaUI_at, jaPt_eq, jaPt_ne, jaUI_o, jaUI_2, jaUL_at, jaUL_o, jaUL_1, jaB_z, jaB_1, ↓jaB_01, Classical.not_not, and_self, true_or, or_true, nI_11, Nat.reduceEqDiff, Nat.reduceAdd, Nat.reduceMul, Nat.add_zero, Nat.zero_add, Nat.mul_zero, not_true_eq_false, not_false_eq_true, false_implies, true_implies, e]
  exact h _ ⟨by simp (disch := first | omega | decide) only [jaU_eq, jaU_U, nI_add, pk_mul, jaIx_nI, vp_inT, true_and, and_true, ↓jaO0, ↓jaO1, nI_z, nI_z2, nI_z3, nI_z4, nI_z5, nI_lt', nI_le', nI_eq', jaUI_at, jaPt_eq, jaPt_ne, jaUI_o, jaUI_2, jaUL_at, jaUL_o, jaUL_1, jaB_z, jaB_1, ↓jaB_01, Classical.not_not, and_self, true_or, or_true, nI_11, Nat.reduceEqDiff, Nat.reduceAdd, Nat.reduceMul, Nat.add_zero, Nat.zero_add, Nat.mul_zero, not_true_eq_false, not_false_eq_true, false_implies, true_implies], by simp (disch := first | omega | decide) only [jaU_eq, jaU_U, nI_add, pk_mul, jaIx_nI, vp_inT, true_and, and_true, ↓jaO0, ↓jaO1, nI_z, nI_z2, nI_z3, nI_z4, nI_z5, nI_lt', nI_le', nI_eq', jaUI_at, jaPt_eq, jaPt_ne, jaUI_o, jaUI_2, jaUL_at, jaUL_o, jaUL_1, jaB_z, jaB_1, ↓jaB_01, Classical.not_not, and_self, true_or, or_true, nI_11, Nat.reduceEqDiff, Nat.reduceAdd, Nat.reduceMul, Nat.add_zero, Nat.zero_add, Nat.mul_zero, not_true_eq_false, not_false_eq_true, false_implies, true_implies]⟩ ((jaFr.rfl.uf (by decide)).uf (by decide))
theorem sp_M_sign {D : Nat} (hD : 4 ≤ D) {kk : Int32 → jaT → Prop} {σ : jaT} {S : jaS} {X : jtX} {i c : Nat} (hR : jmN S X i) (hc : c < 256) (hc3 : jtTc c = 3) (h : jtK X i = c → ∀ S', jmN S' X (i + 1) → jaFr [] jmG S S' → kk (nI 1) (jaU σ 20 S')) (h0 : jtK X i ≠ c → ∀ S', jmFl S' X 1 i → jaFr [] jmG S S' → kk (nI 0) (jaU σ 20 S')) : jaDe D jy_M_sign [jaMo, .inl (nI c)] (jaU σ 20 S) (jaKi kk) := by
  obtain ⟨D, rfl, hD⟩ := jaSuc hD
  apply js_M_sign
  refine sp_M_isSign (by omega) hR hc hc3 ?_
  simp (disch := first | omega | decide) only [jaU_eq, jaU_U, nI_add, pk_mul, jaIx_nI, vp_inT, true_and, and_true, ↓jaO0, ↓jaO1, nI_z, nI_z2, nI_z3, nI_z4, nI_z5, nI_lt', nI_le', nI_eq', jaUI_at, jaPt_eq, jaPt_ne, jaUI_o, jaUI_2, jaUL_at, jaUL_o, jaUL_1, jaB_z, jaB_1, ↓jaB_01, Classical.not_not, and_self, true_or, or_true, nI_11, Nat.reduceEqDiff, Nat.reduceAdd, Nat.reduceMul, Nat.add_zero, Nat.zero_add, Nat.mul_zero, not_true_eq_false, not_false_eq_true, false_implies, true_implies]
  refine ⟨fun q => sp_M_next' (by omega) hR (fun S' a f => h q S' a (f.mono (by decide) (by decide))), fun q => sp_M_bad (by omega) hR (fun S' a f => ⟨Or.inl rfl, h0 q S' a f⟩)⟩
theorem jtTc_2 {K : Nat} : jtTc K = 2 ↔ K = 2 := by
  unfold jtTc
  by_cases q1 : K = 1
  · rw [if_pos q1]; exact ⟨fun z => absurd z (by decide), fun z => by omega⟩
  · rw [if_neg q1]
    by_cases q2 : K = 2
    · rw [if_pos q2]; exact ⟨fun _ => q2, fun _ => rfl⟩
    · rw [if_neg q2]
      refine ⟨fun z => ?_, fun z => absurd z q2⟩
      by_cases q3 : K = 3 ∨ 100 ≤ K
      · rw [if_pos q3] at z; exact absurd z (by decide)
      · rw [if_neg q3] at z
        by_cases w : K = 0 ∨ K = 46
        · rw [if_pos w] at z; exact absurd z (by decide)
        · rw [if_neg w] at z; exact absurd z (by decide)
theorem sp_M_takes {D : Nat} (hD : 4 ≤ D) {kk : Int32 → jaT → Prop} {σ : jaT} {S : jaS} {X : jtX} {i lo hi : Nat} (hR : jmN S X i) (hlo : lo < 2147483648) (hhi : hi < 2147483648) (h : jtK X i = 2 → lo ≤ jtV X i → jtV X i ≤ hi → ∀ S', jmN S' X (i + 1) → S'.1 70 0 21 = nI (jtV X i) → jaFr [] jmG S S' → kk (nI 1) (jaU σ 20 S')) (h2 : jtK X i = 2 → ¬ (lo ≤ jtV X i ∧ jtV X i ≤ hi) → ∀ S', jmFl S' X 2 i → jaFr [] jmG S S' → kk (nI 0) (jaU σ 20 S')) (h1 : jtK X i ≠ 2 → ∀ S', jmFl S' X 1 i → jaFr [] jmG S S' → kk (nI 0) (jaU σ 20 S')) : jaDe D jy_M_takes [jaMo, .inl (nI lo), .inl (nI hi)] (jaU σ 20 S) (jaKi kk) := by
  obtain ⟨⟨a, hX, cc, d, e, g, k, l, m, nn⟩, v⟩ := hR
  have hR : jmN S X i := ⟨⟨a, hX, cc, d, e, g, k, l, m, nn⟩, v⟩
  have ht := jtTc_lt (K := jtK X i)
  obtain ⟨D, rfl, hD⟩ := jaSuc hD
  apply js_M_takes
  simp (disch := first | omega | decide) only [jaU_eq, jaU_U, nI_add, pk_mul, jaIx_nI, vp_inT, true_and, and_true, ↓jaO0, ↓jaO1, nI_z, nI_z2, nI_z3, nI_z4, nI_z5, nI_lt', nI_le', nI_eq', jaUI_at, jaPt_eq, jaPt_ne, jaUI_o, jaUI_2, jaUL_at, jaUL_o, jaUL_1, jaB_z, jaB_1, ↓jaB_01, Classical.not_not, and_self, true_or, or_true, nI_11, Nat.reduceEqDiff, Nat.reduceAdd, Nat.reduceMul, Nat.add_zero, Nat.zero_add, Nat.mul_zero, not_true_eq_false, not_false_eq_true, false_implies, true_implies, g]
  rw [jtTc_2]
  refine ⟨fun q => ?_, fun q => sp_M_bad (by omega) hR (fun S' a f => ⟨Or.inl rfl, h1 q S' a f⟩)⟩
  have hv := jtV_lt hX q
  rw [l q]
  refine sp_M_isIn (by omega) ?_
  simp (disch := first | omega | decide) only [jaU_eq, jaU_U, nI_add, pk_mul, jaIx_nI, vp_inT, true_and, and_true, ↓jaO0, ↓jaO1, nI_z, nI_z2, nI_z3, nI_z4, nI_z5, nI_lt', nI_le', nI_eq', jaUI_at, jaPt_eq, jaPt_ne, jaUI_o, jaUI_2, jaUL_at, jaUL_o, jaUL_1, jaB_z, jaB_1, ↓jaB_01, Classical.not_not, and_self, true_or, or_true, nI_11, Nat.reduceEqDiff, Nat.reduceAdd, Nat.reduceMul, Nat.add_zero, Nat.zero_add, Nat.mul_zero, not_true_eq_false, not_false_eq_true, false_implies, true_implies, l q]
  refine ⟨fun q2 => ?_, fun q2 => sp_M_bad (by omega) hR (fun S' a f => ⟨Or.inl rfl, h2 q (fun z => q2 ⟨by omega, by omega⟩) S' a f⟩)⟩
  have f0 : jaFr [] [21] S (jaUI S 70 0 21 (nI (jtV X i))) := jaFr.rfl.uf (by decide)
  refine sp_M_next' (by omega) (hR.f f0 (by decide) (by decide) (by decide)) (fun S' b f => ?_)
  refine h q (by omega) (by omega) S' b ?_ ((f0.mono (by decide) (by decide)).trans (f.mono (by decide) (by decide)))
  rw [f.f 21 (by decide)]
  simp (disch := first | omega | decide) only [jaU_eq, jaU_U, nI_add, pk_mul, jaIx_nI, vp_inT, true_and, and_true, ↓jaO0, ↓jaO1, nI_z, nI_z2, nI_z3, nI_z4, nI_z5, nI_lt', nI_le', nI_eq', jaUI_at, jaPt_eq, jaPt_ne, jaUI_o, jaUI_2, jaUL_at, jaUL_o, jaUL_1, jaB_z, jaB_1, ↓jaB_01, Classical.not_not, and_self, true_or, or_true, nI_11, Nat.reduceEqDiff, Nat.reduceAdd, Nat.reduceMul, Nat.add_zero, Nat.zero_add, Nat.mul_zero, not_true_eq_false, not_false_eq_true, false_implies, true_implies]
/-- the first of n names from f on that is w -/
noncomputable def jnF (nm : Nat → Nat) (f w : Nat) : Nat → Nat → Option Nat
  | 0, _ => none
  | n + 1, r => jaIf1 (nm (f + r) = w) (some r) (jnF nm f w n (r + 1))
theorem jnF_lt {nm : Nat → Nat} {f w r : Nat} : ∀ n q, jnF nm f w n q = some r → q ≤ r ∧ r < q + n ∧ nm (f + r) = w
  | 0, _, h => by cases h
  | n + 1, q, h => by
    rw [jnF] at h
    by_cases z : nm (f + q) = w
    · rw [jaIf1_t z] at h
      cases h
      exact ⟨Nat.le_refl _, by omega, z⟩
    · rw [jaIf1_f z] at h
      have := jnF_lt n (q + 1) h
      exact ⟨by omega, by omega, this.2.2⟩
theorem jnF_no {nm : Nat → Nat} {f w : Nat} : ∀ n q, (jnF nm f w n q = none ↔ ∀ r, q ≤ r → r < q + n → nm (f + r) ≠ w)
  | 0, q => ⟨fun _ r h1 h2 => absurd h2 (by omega), fun _ => rfl⟩
  | n + 1, q => by
    rw [jnF]
    by_cases z : nm (f + q) = w
    · rw [jaIf1_t z]
      exact ⟨fun y => absurd y (fun v => by cases v), fun y => absurd z (y q (Nat.le_refl _) (by omega))⟩
    · rw [jaIf1_f z, jnF_no n (q + 1)]
      refine ⟨fun y r h1 h2 => ?_, fun y r h1 h2 => y r (by omega) (by omega)⟩
      by_cases er : r = q
      · rw [er]; exact z
      · exact y r (by omega) (by omega)
theorem sp_M_seek {D : Nat} (hD : 1 ≤ D) {kk : Int32 → jaT → Prop} {σ : jaT} {S : jaS} {nm : Nat → Nat} {f f0 n w : Nat} (hn : ∀ r, r < n → S.2 78 0 (f + r) = Int64.ofNat (nm (f0 + r)) ∧ nm (f0 + r) < 9223372036854775808) (hf : f + n ≤ 32) (hw : S.2 70 0 20 = Int64.ofNat w) (hw9 : w < 9223372036854775808) (h : kk (jvOp (jnF nm f0 w n 0) nI) (jaU σ 20 S)) : jaDe D jy_M_seek [jaMo, .inl (nI f), .inl (nI n)] (jaU σ 20 S) (jaKi kk) := by
  obtain ⟨D, rfl, hD⟩ := jaSuc hD
  apply js_M_seek
  have L : ∀ m r, r + m = n → kk (jvOp (jnF nm f0 w m r) nI) (jaU σ 20 S) → jc_M_seek_1 D kk (nI f) (nI n) (nI r) (jaU σ 20 S) := by
    intro m
    induction m with
    | zero =>
      intro r hr hk
      apply jb_M_seek_1
      simp (disch := first | omega | decide) only [jaU_eq, jaU_U, nI_add, pk_mul, jaIx_nI, vp_inT, true_and, and_true, ↓jaO0, ↓jaO1, nI_z, nI_z2, nI_z3, nI_z4, nI_z5, nI_lt', nI_le', nI_eq', jaUI_at, jaPt_eq, jaPt_ne, jaUI_o, jaUI_2, jaUL_at, jaUL_o, jaUL_1, jaB_z, jaB_1, ↓jaB_01, Classical.not_not, and_self, true_or, or_true, nI_11, Nat.reduceEqDiff, Nat.reduceAdd, Nat.reduceMul, Nat.add_zero, Nat.zero_add, Nat.mul_zero, not_true_eq_false, not_false_eq_true, false_implies, true_implies]
      refine ⟨fun _ => ?_, fun q => absurd (by omega) q⟩
      exact hk
    | succ m ih =>
      intro r hr hk
      obtain ⟨n1, n2⟩ := hn r (by omega)
      rw [jnF] at hk
      apply jb_M_seek_1
      simp (disch := first | omega | decide) only [jaU_eq, jaU_U, nI_add, pk_mul, jaIx_nI, vp_inT, true_and, and_true, ↓jaO0, ↓jaO1, nI_z, nI_z2, nI_z3, nI_z4, nI_z5, nI_lt', nI_le', nI_eq', jaUI_at, jaPt_eq, jaPt_ne, jaUI_o, jaUI_2, jaUL_at, jaUL_o, jaUL_1, jaB_z, jaB_1, ↓jaB_01, Classical.not_not, and_self, true_or, or_true, nI_11, Nat.reduceEqDiff, Nat.reduceAdd, Nat.reduceMul, Nat.add_zero, Nat.zero_add, Nat.mul_zero, not_true_eq_false, not_false_eq_true, false_implies, true_implies, n1, hw, lg_cmp_eq]
      rw [jaL_inj n2 hw9]
      refine ⟨fun q => absurd q (by omega), fun _ => ?_⟩
      refine ⟨fun q => ?_, fun q => ?_⟩
      · rw [jaIf1_f q] at hk
        exact ih (r + 1) (by omega) hk
      · rwa [jaIf1_t q] at hk
  exact L n 0 (by omega) h
set_option maxHeartbeats 1000000 in
theorem sp_M_looksAt {D : Nat} (hD : 3 ≤ D) {kk : Int32 → jaT → Prop} {σ : jaT} {S : jaS} {X : jtX} {nm : Nat → Nat} {i f f0 n : Nat} (hR : jmN S X i) (hn : ∀ r, r < n → S.2 78 0 (f + r) = Int64.ofNat (nm (f0 + r)) ∧ nm (f0 + r) < 9223372036854775808) (hf : f + n ≤ 32) (h : ∀ r, jtK X i = 3 → jnF nm f0 (jtW X i) n 0 = some r → ∀ S', jmN S' X i → S'.1 70 0 21 = nI r → jaFr [] jmG S S' → kk (nI 1) (jaU σ 20 S')) (h3 : jtK X i = 3 → jnF nm f0 (jtW X i) n 0 = none → ∀ S', jmFl S' X 3 i → jaFr [] jmG S S' → kk (nI 0) (jaU σ 20 S')) (h1 : jtK X i ≠ 3 → ∀ S', jmFl S' X 1 i → jaFr [] jmG S S' → kk (nI 0) (jaU σ 20 S')) : jaDe D jy_M_looksAt [jaMo, .inl (nI f), .inl (nI n)] (jaU σ 20 S) (jaKi kk) := by
  obtain ⟨D, rfl, hD⟩ := jaSuc hD
  apply js_M_looksAt
  refine sp_M_isName (by omega) hR ?_
  simp (disch := first | omega | decide) only [jaU_eq, jaU_U, nI_add, pk_mul, jaIx_nI, vp_inT, true_and, and_true, ↓jaO0, ↓jaO1, nI_z, nI_z2, nI_z3, nI_z4, nI_z5, nI_lt', nI_le', nI_eq', jaUI_at, jaPt_eq, jaPt_ne, jaUI_o, jaUI_2, jaUL_at, jaUL_o, jaUL_1, jaB_z, jaB_1, ↓jaB_01, Classical.not_not, and_self, true_or, or_true, nI_11, Nat.reduceEqDiff, Nat.reduceAdd, Nat.reduceMul, Nat.add_zero, Nat.zero_add, Nat.mul_zero, not_true_eq_false, not_false_eq_true, false_implies, true_implies]
  refine ⟨fun q => ?_, fun q => sp_M_bad (by omega) hR (fun S' a f => ⟨Or.inl rfl, h1 q S' a f⟩)⟩
  have q1 := jtTc_w.mpr (Or.inl q)
  obtain ⟨k1, k2⟩ := jtW_k hR.1.2.1 q1
  refine sp_M_seek (by omega) hn hf (hR.1.2.2.2.2.2.2.2.2.2 q1) k2 ?_
  simp only [jaU_eq, jaU_U, jaUI_at, jaPt_eq]
  rcases ho : jnF nm f0 (jtW X i) n 0 with _ | r
  · have f1 : jaFr [] [21] S (jaUI S 70 0 21 (-1)) := jaFr.rfl.uf (by decide)
    refine ⟨fun z => absurd (show (0 : Int32) ≤ -1 from z) (by decide), fun _ => ?_⟩
    exact sp_M_bad (by omega) (hR.f f1 (by decide) (by decide) (by decide)) (fun S' a f => ⟨fun _ => h3 q ho S' a ((f1.mono (by decide) (by decide)).trans f), fun z => absurd rfl z⟩)
  · have hlt := jnF_lt _ _ ho
    have f1 : jaFr [] [21] S (jaUI S 70 0 21 (nI r)) := jaFr.rfl.uf (by decide)
    refine ⟨fun _ => h r q ho _ (hR.f f1 (by decide) (by decide) (by decide)) (by simp (disch := first | omega | decide) only [jaU_eq, jaU_U, nI_add, pk_mul, jaIx_nI, vp_inT, true_and, and_true, ↓jaO0, ↓jaO1, nI_z, nI_z2, nI_z3, nI_z4, nI_z5, nI_lt', nI_le', nI_eq', jaUI_at, jaPt_eq, jaPt_ne, jaUI_o, jaUI_2, jaUL_at, jaUL_o, jaUL_1, jaB_z, jaB_1, ↓jaB_01, Classical.not_not, and_self, true_or, or_true, nI_11, Nat.reduceEqDiff, Nat.reduceAdd, Nat.reduceMul, Nat.add_zero, Nat.zero_add, Nat.mul_zero, not_true_eq_false, not_false_eq_true, false_implies, true_implies]; rfl) (f1.mono (by decide) (by decide)), fun z => absurd (show (0 : Int32) ≤ nI r from nI_pos' (by omega)) z⟩
theorem sp_M_takesName {D : Nat} (hD : 4 ≤ D) {kk : Int32 → jaT → Prop} {σ : jaT} {S : jaS} {X : jtX} {nm : Nat → Nat} {i f f0 n : Nat} (hR : jmN S X i) (hn : ∀ r, r < n → S.2 78 0 (f + r) = Int64.ofNat (nm (f0 + r)) ∧ nm (f0 + r) < 9223372036854775808) (hf : f + n ≤ 32) (h : ∀ r, jtK X i = 3 → jnF nm f0 (jtW X i) n 0 = some r → ∀ S', jmN S' X (i + 1) → S'.1 70 0 21 = nI r → jaFr [] jmG S S' → kk (nI 1) (jaU σ 20 S')) (h3 : jtK X i = 3 → jnF nm f0 (jtW X i) n 0 = none → ∀ S', jmFl S' X 3 i → jaFr [] jmG S S' → kk (nI 0) (jaU σ 20 S')) (h1 : jtK X i ≠ 3 → ∀ S', jmFl S' X 1 i → jaFr [] jmG S S' → kk (nI 0) (jaU σ 20 S')) : jaDe D jy_M_takesName [jaMo, .inl (nI f), .inl (nI n)] (jaU σ 20 S) (jaKi kk) := by
  obtain ⟨D, rfl, hD⟩ := jaSuc hD
  apply js_M_takesName
  refine sp_M_looksAt (by omega) hR hn hf (fun r q1 q2 S1 a b f => ⟨fun _ => ?_, fun z => absurd z (by decide)⟩) (fun q1 q2 S1 a f => ⟨fun z => absurd rfl z, fun _ => ⟨Or.inl rfl, h3 q1 q2 S1 a f⟩⟩) (fun q S1 a f => ⟨fun z => absurd rfl z, fun _ => ⟨Or.inl rfl, h1 q S1 a f⟩⟩)
  exact sp_M_next' (by omega) a (fun S2 a2 f2 => ⟨Or.inr rfl, h r q1 q2 S2 a2 ((f2.f 21 (by decide)).trans b) (f.trans (f2.mono (by decide) (by decide)))⟩)
end
