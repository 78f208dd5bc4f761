section
/-! the reference: a BOOK read -/
def jbE (S : jaS) (nm : Nat → Nat) (n0 n2 : Nat) : Prop := (∀ r, r < n0 → S.2 78 0 r = Int64.ofNat (nm r) ∧ nm r < 9223372036854775808) ∧ (∀ r, r < n2 → S.2 78 0 (13 + r) = Int64.ofNat (nm (13 + r)) ∧ nm (13 + r) < 9223372036854775808) ∧ S.1 72 0 0 = nI n0 ∧ S.1 72 0 2 = nI n2
theorem jbE.f {S S' : jaS} {nm : Nat → Nat} {n0 n2 : Nat} {A F : List Nat} (h : jbE S nm n0 n2) (f : jaFr A F S S') (h72 : 72 ∉ A) (h78 : 78 ∉ A) : jbE S' nm n0 n2 := by
  unfold jbE
  rw [f.l 78 h78 (by decide), f.s 72 h72 (by decide)]
  exact h
theorem jnF_z {nm : Nat → Nat} {f w : Nat} (h : ∀ r, nm (f + r) ≠ w) : ∀ n q, jnF nm f w n q = none
  | 0, _ => rfl
  | n + 1, q => by rw [jnF, jaIf1_f (h q)]; exact jnF_z h n (q + 1)
theorem jwNam_0 {X : jtX} {nm : Nat → Nat} {i : Nat} (h : nm 13 = 0) : jwNam X nm 13 1 i = jwNam X nm 13 0 i := by
  unfold jwNam
  by_cases q : jtK X i = 3
  · rw [jaIf1_t q, jaIf1_t q]
    have := jtW_pos (jtTc_w.mpr (Or.inl q))
    have e1 : jnF nm 13 (jtW X i) 1 0 = none := (jnF_no 1 0).mpr (fun r _ h2 => by
      have hr : r = 0 := by omega
      rw [hr, Nat.add_zero, h]
      omega)
    have e0 : jnF nm 13 (jtW X i) 0 0 = none := rfl
    rw [e1, e0]
  · rw [jaIf1_f q, jaIf1_f q]
def jbM (R : jvA) (j : Nat) (y : jbY) : Prop := R (3 * j) = nI y.1 ∧ (y.1 ≠ 1 → R (3 * j + 1) = nI y.2.1) ∧ (y.1 = 0 → R (3 * j + 2) = nI y.2.2)
theorem sp_M_namesOfCopies {D : Nat} (hD : 1 ≤ D) {kk : Int32 → jaT → Prop} {σ : jaT} {S : jaS} {w n : Nat} (h78 : S.2 78 0 13 = Int64.ofNat w) (hw : w < 9223372036854775808) (h2 : S.1 72 0 2 = nI n) (h : kk (nI (if w = 0 then 0 else n)) (jaU σ 20 S)) : jaDe D jy_M_namesOfCopies [jaMo] (jaU σ 20 S) (jaKi kk) := by
  obtain ⟨D, rfl, hD⟩ := jaSuc hD
  apply js_M_namesOfCopies
  simp (disch := first | omega | decide) only [jaU_eq, jaU_U, nI_add, pk_mul, jaIx_nI, vp_inT, true_and, and_true, ↓jaO0, ↓jaO1, nI_z, nI_z2, nI_z3, nI_z4, nI_z5, nI_lt', nI_le', nI_eq', jaUI_at, jaPt_eq, jaPt_ne, jaUI_o, jaUI_2, jaUL_at, jaUL_o, jaUL_1, jaB_z, jaB_1, ↓jaB_01, Classical.not_not, and_self, true_or, or_true, nI_11, Nat.reduceEqDiff, Nat.reduceAdd, Nat.reduceMul, Nat.add_zero, Nat.zero_add, Nat.mul_zero, not_true_eq_false, not_false_eq_true, false_implies, true_implies, h78, h2, lg_cmp_eq]
  rw [jaL_inj hw (by decide)]
  refine ⟨fun q => ?_, fun q => ?_⟩
  · rwa [if_neg q] at h
  · rwa [if_pos q] at h
set_option maxHeartbeats 2000000 in
theorem sp_M_bookLine {D : Nat} (hD : 5 ≤ D) {kk : Int32 → jaT → Prop} {σ : jaT} {S : jaS} {X : jtX} {nm : Nat → Nat} {i n0 n2 cnt : Nat} (hR : jmN S X i) (hE : jbE S nm n0 n2) (h03 : n0 ≤ 3) (h23 : n2 ≤ 3) (h21 : 1 ≤ n2) (h13 : nm 13 = 0 → n2 = 1) (hc : S.1 70 0 41 = nI cnt) (hc4 : cnt ≤ 40)
    (h : ∀ y i', jbLine X nm n0 n2 cnt i = .inr (y, i') → ∀ S', jmN S' X i' → jbM (S'.1 74 0) cnt y → (∀ j, j < 3 * cnt → S'.1 74 0 j = S.1 74 0 j) → jaFr [74] jmG S S' → kk (nI 1) (jaU σ 20 S'))
    (h0 : ∀ c p, jbLine X nm n0 n2 cnt i = .inl (c, p) → ∀ S', jmFl S' X c p → jaFr [74] jmG S S' → kk (nI 0) (jaU σ 20 S')) :
    jaDe D jy_M_bookLine [jaMo] (jaU σ 20 S) (jaKi kk) := by
  obtain ⟨D, rfl, hD⟩ := jaSuc hD
  have L5 : ∀ t, t ≤ 3 → jtK X i = 109 + t → jc_M_bookLine_5 D kk (nI (3 * cnt)) (nI t) (jaU σ 20 S) := by
    intro t ht ek
    unfold jbLine at h h0
    rw [jaIf1_t ⟨by omega, by omega⟩] at h h0
    apply jb_M_bookLine_5
    simp (disch := first | omega | decide) only [jaU_eq, jaU_U, nI_add, pk_mul, jaIx_nI, vp_inT, true_and, and_true, ↓jaO0, ↓jaO1, nI_z, nI_z2, nI_z3, nI_z4, nI_z5, nI_lt', nI_le', nI_eq', jaUI_at, jaPt_eq, jaPt_ne, jaUI_o, jaUI_2, jaUL_at, jaUL_o, jaUL_1, jaB_z, jaB_1, ↓jaB_01, Classical.not_not, and_self, true_or, or_true, nI_11, Nat.reduceEqDiff, Nat.reduceAdd, Nat.reduceMul, Nat.add_zero, Nat.zero_add, Nat.mul_zero, not_true_eq_false, not_false_eq_true, false_implies, true_implies, hc]
    refine ⟨fun c4 => ?_, fun c4 => ?_⟩
    · rw [jaIf1_f c4] at h h0
      refine sp_M_next' (by omega) hR (fun S1 a1 f1 => ?_)
      simp (disch := first | omega | decide) only [jaU_eq, jaU_U, nI_add, pk_mul, jaIx_nI, vp_inT, true_and, and_true, ↓jaO0, ↓jaO1, nI_z, nI_z2, nI_z3, nI_z4, nI_z5, nI_lt', nI_le', nI_eq', jaUI_at, jaPt_eq, jaPt_ne, jaUI_o, jaUI_2, jaUL_at, jaUL_o, jaUL_1, jaB_z, jaB_1, ↓jaB_01, Classical.not_not, and_self, true_or, or_true, nI_11, Nat.reduceEqDiff, Nat.reduceAdd, Nat.reduceMul, Nat.add_zero, Nat.zero_add, Nat.mul_zero, not_true_eq_false, not_false_eq_true, false_implies, true_implies]
      have f2 : jaFr [74] [] S1 (jaUI S1 74 0 (3 * cnt) (nI t)) := jaFr.rfl.ui (by decide) (by decide)
      have F2 : jaFr [74] jmG S (jaUI S1 74 0 (3 * cnt) (nI t)) := (f1.mono (by decide) (by decide)).trans (f2.mono (by decide) (by decide))
      have a2 : jmN (jaUI S1 74 0 (3 * cnt) (nI t)) X (i + 1) := a1.f f2 (by decide) (by decide) (fun _ _ => List.not_mem_nil)
      have E2 : jbE (jaUI S1 74 0 (3 * cnt) (nI t)) nm n0 n2 := hE.f F2 (by decide) (by decide)
      have r2 : (jaUI S1 74 0 (3 * cnt) (nI t)).1 74 0 = jaPt (S.1 74 0) (3 * cnt) (nI t) := by rw [jaUI_at, f1.s 74 (by decide) (by decide)]
      generalize jaUI S1 74 0 (3 * cnt) (nI t) = S2 at *
      -- behind the first
      have B0 : ∀ c p S3, jmFl S3 X c p → jaFr [] jmG S2 S3 → jbLine X nm n0 n2 cnt i = .inl (c, p) → jc_M_bookLine_11 D kk (nI (3 * cnt)) (nI t) (nI 0) (jaU σ 20 S3) := by
        intro c p S3 a3 f3 e
        unfold jbLine at e
        rw [jaIf1_t ⟨by omega, by omega⟩, jaIf1_f c4] at e
        apply jb_M_bookLine_11
        simp (disch := first | omega | decide) only [jaU_eq, jaU_U, nI_add, pk_mul, jaIx_nI, vp_inT, true_and, and_true, ↓jaO0, ↓jaO1, nI_z, nI_z2, nI_z3, nI_z4, nI_z5, nI_lt', nI_le', nI_eq', jaUI_at, jaPt_eq, jaPt_ne, jaUI_o, jaUI_2, jaUL_at, jaUL_o, jaUL_1, jaB_z, jaB_1, ↓jaB_01, Classical.not_not, and_self, true_or, or_true, nI_11, Nat.reduceEqDiff, Nat.reduceAdd, Nat.reduceMul, Nat.add_zero, Nat.zero_add, Nat.mul_zero, not_true_eq_false, not_false_eq_true, false_implies, true_implies]
        apply jb_M_bookLine_12
        refine ⟨Or.inl rfl, h0 c p e _ ?_ (F2.trans ((f3.mono (by decide) (by decide)).ui (by decide) (by decide)))⟩
        unfold jmFl
        rw [jaUI_o (by decide)]
        exact a3
      have B1 : ∀ v S3, v < 1000 → t ≠ 0 → jmN S3 X (i + 2) → S3.1 70 0 21 = nI v → jaFr [] jmG S2 S3 → t ≠ 1 → jbLine X nm n0 n2 cnt i = .inr ((t, v, 0), i + 2) → jc_M_bookLine_11 D kk (nI (3 * cnt)) (nI t) (nI 1) (jaU σ 20 S3) := by
        intro v S3 v9 t0 a3 b3 f3 t1 e
        unfold jbLine at e
        rw [jaIf1_t ⟨by omega, by omega⟩, jaIf1_f c4] at e
        apply jb_M_bookLine_11
        simp (disch := first | omega | decide) only [jaU_eq, jaU_U, nI_add, pk_mul, jaIx_nI, vp_inT, true_and, and_true, ↓jaO0, ↓jaO1, nI_z, nI_z2, nI_z3, nI_z4, nI_z5, nI_lt', nI_le', nI_eq', jaUI_at, jaPt_eq, jaPt_ne, jaUI_o, jaUI_2, jaUL_at, jaUL_o, jaUL_1, jaB_z, jaB_1, ↓jaB_01, Classical.not_not, and_self, true_or, or_true, nI_11, Nat.reduceEqDiff, Nat.reduceAdd, Nat.reduceMul, Nat.add_zero, Nat.zero_add, Nat.mul_zero, not_true_eq_false, not_false_eq_true, false_implies, true_implies, b3]
        refine ⟨fun z => absurd z t0, fun _ => ?_⟩
        apply jb_M_bookLine_12
        have f4 : jaFr [74] [] S3 (jaUI S3 74 0 (3 * cnt + 1) (nI v)) := jaFr.rfl.ui (by decide) (by decide)
        refine ⟨Or.inr rfl, h _ _ e _ (a3.f f4 (by decide) (by decide) (fun _ _ => List.not_mem_nil)) ⟨?_, fun _ => ?_, fun z => absurd z t0⟩ (fun j hj => ?_) (F2.trans ((f3.mono (by decide) (by decide)).trans (f4.mono (by decide) (by decide))))⟩
        · rw [jaUI_at, jaPt_ne (by omega), f3.s 74 (by decide) (by decide), r2, jaPt_eq]
        · rw [jaUI_at, jaPt_eq]
        · rw [jaUI_at, jaPt_ne (by omega), f3.s 74 (by decide) (by decide), r2, jaPt_ne (by omega)]
      refine ⟨fun t1 => ⟨fun t0 => ⟨fun t2 => ?_, fun t2 => ?_⟩, fun t0 => ?_⟩, fun t1 => ?_⟩
      · refine sp_M_num (by omega) a2 (by omega) (by omega) (fun v e v9 S3 a3 b3 f3 => B1 v S3 v9 t0 a3 b3 f3 t1 ?_) (fun c p e S3 a3 f3 => B0 c p S3 a3 f3 ?_)
        · unfold jbLine
          rw [jaIf1_t ⟨by omega, by omega⟩, jaIf1_f c4, jaIf1_f (by omega), jaIf1_f (by omega), jaIf1_f (by omega), jwB_i e, show t = 3 by omega]
        · unfold jbLine
          rw [jaIf1_t ⟨by omega, by omega⟩, jaIf1_f c4, jaIf1_f (by omega), jaIf1_f (by omega), jaIf1_f (by omega), jwB_l e]
      · obtain ⟨w1, w2⟩ := E2.2.1 0 (by omega)
        refine sp_M_namesOfCopies (w := nm 13) (n := n2) (by omega) w1 w2 E2.2.2.2 ?_
        have en : jwNam X nm 13 (if nm 13 = 0 then 0 else n2) (i + 1) = jwNam X nm 13 n2 (i + 1) := by
          by_cases z : nm 13 = 0
          · rw [if_pos z, h13 z, jwNam_0 z]
          · rw [if_neg z]
        refine sp_M_nam (f0 := 13) (nm := nm) (by omega) a2 (fun r hr => E2.2.1 r ?_) ?_ (fun r e S3 a3 b3 f3 => B1 r S3 ?_ t0 a3 b3 f3 t1 ?_) (fun c p e S3 a3 f3 => B0 c p S3 a3 f3 ?_)
        · by_cases z : nm 13 = 0
          · rw [if_pos z] at hr; omega
          · rw [if_neg z] at hr; exact hr
        · by_cases z : nm 13 = 0
          · rw [if_pos z]; omega
          · rw [if_neg z]; omega
        · rw [en] at e
          have := (jwNam_r e).2.1
          omega
        · rw [en] at e
          unfold jbLine
          rw [jaIf1_t ⟨by omega, by omega⟩, jaIf1_f c4, jaIf1_f (by omega), jaIf1_f (by omega), jaIf1_t (by omega), jwB_i e, t2]
        · rw [en] at e
          unfold jbLine
          rw [jaIf1_t ⟨by omega, by omega⟩, jaIf1_f c4, jaIf1_f (by omega), jaIf1_f (by omega), jaIf1_t (by omega), jwB_l e]
      · have z0 : S1.1 72 0 0 = nI n0 := by rw [f1.s 72 (by decide) (by decide)]; exact hE.2.2.1
        simp (disch := first | omega | decide) only [jaU_eq, jaU_U, nI_add, pk_mul, jaIx_nI, vp_inT, true_and, and_true, ↓jaO0, ↓jaO1, nI_z, nI_z2, nI_z3, nI_z4, nI_z5, nI_lt', nI_le', nI_eq', jaUI_at, jaPt_eq, jaPt_ne, jaUI_o, jaUI_2, jaUL_at, jaUL_o, jaUL_1, jaB_z, jaB_1, ↓jaB_01, Classical.not_not, and_self, true_or, or_true, nI_11, Nat.reduceEqDiff, Nat.reduceAdd, Nat.reduceMul, Nat.add_zero, Nat.zero_add, Nat.mul_zero, not_true_eq_false, not_false_eq_true, false_implies, true_implies, z0]
        have eL : jbLine X nm n0 n2 cnt i = (jwB (jwNam X nm 0 n0 (i + 1)) fun a => jwB (jwNum X 0 23 (i + 2)) fun b => .inr ((0, a, b), i + 3)) := by
          unfold jbLine
          rw [jaIf1_t ⟨by omega, by omega⟩, jaIf1_f c4, jaIf1_f (by omega), jaIf1_t (by omega)]
        refine sp_M_nam (f0 := 0) (nm := nm) (by omega) a2 (fun r hr => by rw [Nat.zero_add]; exact E2.1 r hr) (by omega) (fun r e S3 a3 b3 f3 => ?_) (fun c p e S3 a3 f3 => B0 c p S3 a3 f3 (by rw [eL, jwB_l e]))
        · have lt := (jwNam_r e).2.1
          rw [jaIf1_f (by omega), jaIf1_t (by omega), jwB_i e] at h h0
          subst t0
          apply jb_M_bookLine_11
          simp (disch := first | omega | decide) only [jaU_eq, jaU_U, nI_add, pk_mul, jaIx_nI, vp_inT, true_and, and_true, ↓jaO0, ↓jaO1, nI_z, nI_z2, nI_z3, nI_z4, nI_z5, nI_lt', nI_le', nI_eq', jaUI_at, jaPt_eq, jaPt_ne, jaUI_o, jaUI_2, jaUL_at, jaUL_o, jaUL_1, jaB_z, jaB_1, ↓jaB_01, Classical.not_not, and_self, true_or, or_true, nI_11, Nat.reduceEqDiff, Nat.reduceAdd, Nat.reduceMul, Nat.add_zero, Nat.zero_add, Nat.mul_zero, not_true_eq_false, not_false_eq_true, false_implies, true_implies, b3]
          have f4 : jaFr [74] [] S3 (jaUI S3 74 0 (3 * cnt + 1) (nI r)) := jaFr.rfl.ui (by decide) (by decide)
          have F4 : jaFr [74] jmG S (jaUI S3 74 0 (3 * cnt + 1) (nI r)) := F2.trans ((f3.mono (by decide) (by decide)).trans (f4.mono (by decide) (by decide)))
          refine sp_M_num (by omega) (a3.f f4 (by decide) (by decide) (fun _ _ => List.not_mem_nil)) (by omega) (by omega) (fun v e2 v9 S5 a5 b5 f5 => ?_) (fun c p e2 S5 a5 f5 => ?_)
          · rw [jwB_i e2] at h
            simp (disch := first | omega | decide) only [jaU_eq, jaU_U, nI_add, pk_mul, jaIx_nI, vp_inT, true_and, and_true, ↓jaO0, ↓jaO1, nI_z, nI_z2, nI_z3, nI_z4, nI_z5, nI_lt', nI_le', nI_eq', jaUI_at, jaPt_eq, jaPt_ne, jaUI_o, jaUI_2, jaUL_at, jaUL_o, jaUL_1, jaB_z, jaB_1, ↓jaB_01, Classical.not_not, and_self, true_or, or_true, nI_11, Nat.reduceEqDiff, Nat.reduceAdd, Nat.reduceMul, Nat.add_zero, Nat.zero_add, Nat.mul_zero, not_true_eq_false, not_false_eq_true, false_implies, true_implies, b5]
            have f6 : jaFr [74] [] S5 (jaUI S5 74 0 (3 * cnt + 2) (nI v)) := jaFr.rfl.ui (by decide) (by decide)
            refine h _ _ rfl _ (a5.f f6 (by decide) (by decide) (fun _ _ => List.not_mem_nil)) ⟨?_, fun _ => ?_, fun _ => ?_⟩ (fun j hj => ?_) (F4.trans ((f5.mono (by decide) (by decide)).trans (f6.mono (by decide) (by decide))))
            · rw [jaUI_at, jaPt_ne (by omega), f5.s 74 (by decide) (by decide), jaUI_at, jaPt_ne (by omega), f3.s 74 (by decide) (by decide), r2, jaPt_eq]
            · rw [jaUI_at, jaPt_ne (by omega), f5.s 74 (by decide) (by decide), jaUI_at, jaPt_eq]
            · rw [jaUI_at, jaPt_eq]
            · rw [jaUI_at, jaPt_ne (by omega), f5.s 74 (by decide) (by decide), jaUI_at, jaPt_ne (by omega), f3.s 74 (by decide) (by decide), r2, jaPt_ne (by omega)]
          · rw [jwB_l e2] at h0
            (try simp (disch := first | omega | decide) only [jaU_eq, jaU_U, nI_add, pk_mul, jaIx_nI, vp_inT, true_and, and_true, ↓jaO0, ↓jaO1, nI_z, nI_z2, nI_z3, nI_z4, nI_z5, nI_lt', nI_le', nI_eq', jaUI_at, jaPt_eq, jaPt_ne, jaUI_o, jaUI_2, jaUL_at, jaUL_o, jaUL_1, jaB_z, jaB_1, ↓jaB_01, Classical.not_not, and_self, true_or, or_true, nI_11, Nat.reduceEqDiff, Nat.reduceAdd, Nat.reduceMul, Nat.add_zero, Nat.zero_add, Nat.mul_zero, not_true_eq_false, not_false_eq_true, false_implies, true_implies])
            refine h0 c p rfl _ ?_ (F4.trans ((f5.mono (by decide) (by decide)).ui (by decide) (by decide)))
            unfold jmFl
            rw [jaUI_o (by decide)]
            exact a5
      · subst t1
        rw [jaIf1_t (by omega)] at h
        refine h _ _ rfl S2 a2 ⟨?_, fun z => absurd rfl z, fun z => absurd (show (1 : Nat) = 0 from z) (by decide)⟩ (fun j hj => ?_) F2
        · rw [r2, jaPt_eq]
        · rw [r2, jaPt_ne (by omega)]
    · rw [jaIf1_t c4] at h0
      refine sp_M_bad (by omega) hR (fun S' a f => ⟨Or.inl rfl, h0 4 i rfl S' a (f.mono (by decide) (by decide))⟩)
  apply js_M_bookLine
  refine sp_M_isWord (n := 9) (by omega) hR (by omega) (by decide +kernel) ?_
  simp (disch := first | omega | decide) only [jaU_eq, jaU_U, nI_add, pk_mul, jaIx_nI, vp_inT, true_and, and_true, ↓jaO0, ↓jaO1, nI_z, nI_z2, nI_z3, nI_z4, nI_z5, nI_lt', nI_le', nI_eq', jaUI_at, jaPt_eq, jaPt_ne, jaUI_o, jaUI_2, jaUL_at, jaUL_o, jaUL_1, jaB_z, jaB_1, ↓jaB_01, Classical.not_not, and_self, true_or, or_true, nI_11, Nat.reduceEqDiff, Nat.reduceAdd, Nat.reduceMul, Nat.add_zero, Nat.zero_add, Nat.mul_zero, not_true_eq_false, not_false_eq_true, false_implies, true_implies, hc]
  refine ⟨fun q1 => ?_, fun q1 => L5 0 (by omega) (by omega)⟩
  refine sp_M_isWord (n := 10) (by omega) hR (by omega) (by decide +kernel) ?_
  simp (disch := first | omega | decide) only [jaU_eq, jaU_U, nI_add, pk_mul, jaIx_nI, vp_inT, true_and, and_true, ↓jaO0, ↓jaO1, nI_z, nI_z2, nI_z3, nI_z4, nI_z5, nI_lt', nI_le', nI_eq', jaUI_at, jaPt_eq, jaPt_ne, jaUI_o, jaUI_2, jaUL_at, jaUL_o, jaUL_1, jaB_z, jaB_1, ↓jaB_01, Classical.not_not, and_self, true_or, or_true, nI_11, Nat.reduceEqDiff, Nat.reduceAdd, Nat.reduceMul, Nat.add_zero, Nat.zero_add, Nat.mul_zero, not_true_eq_false, not_false_eq_true, false_implies, true_implies, hc]
  refine ⟨fun q2 => ?_, fun q2 => L5 1 (by omega) (by omega)⟩
  refine sp_M_isWord (n := 11) (by omega) hR (by omega) (by decide +kernel) ?_
  simp (disch := first | omega | decide) only [jaU_eq, jaU_U, nI_add, pk_mul, jaIx_nI, vp_inT, true_and, and_true, ↓jaO0, ↓jaO1, nI_z, nI_z2, nI_z3, nI_z4, nI_z5, nI_lt', nI_le', nI_eq', jaUI_at, jaPt_eq, jaPt_ne, jaUI_o, jaUI_2, jaUL_at, jaUL_o, jaUL_1, jaB_z, jaB_1, ↓jaB_01, Classical.not_not, and_self, true_or, or_true, nI_11, Nat.reduceEqDiff, Nat.reduceAdd, Nat.reduceMul, Nat.add_zero, Nat.zero_add, Nat.mul_zero, not_true_eq_false, not_false_eq_true, false_implies, true_implies, hc]
  refine ⟨fun q3 => ?_, fun q3 => L5 2 (by omega) (by omega)⟩
  refine sp_M_isWord (n := 12) (by omega) hR (by omega) (by decide +kernel) ?_
  simp (disch := first | omega | decide) only [jaU_eq, jaU_U, nI_add, pk_mul, jaIx_nI, vp_inT, true_and, and_true, ↓jaO0, ↓jaO1, nI_z, nI_z2, nI_z3, nI_z4, nI_z5, nI_lt', nI_le', nI_eq', jaUI_at, jaPt_eq, jaPt_ne, jaUI_o, jaUI_2, jaUL_at, jaUL_o, jaUL_1, jaB_z, jaB_1, ↓jaB_01, Classical.not_not, and_self, true_or, or_true, nI_11, Nat.reduceEqDiff, Nat.reduceAdd, Nat.reduceMul, Nat.add_zero, Nat.zero_add, Nat.mul_zero, not_true_eq_false, not_false_eq_true, false_implies, true_implies, hc]
  refine ⟨fun q4 => ?_, fun q4 => L5 3 (by omega) (by omega)⟩
  apply jb_M_bookLine_5
  refine ⟨fun z => absurd (show (0 : Int32) ≤ -1 from z) (by decide), fun _ => ?_⟩
  unfold jbLine at h0
  rw [jaIf1_f (by omega)] at h0
  exact sp_M_bad (by omega) hR (fun S' a f => ⟨Or.inl rfl, h0 1 i rfl S' a (f.mono (by decide) (by decide))⟩)
end
