section
/-! the reference: an operand -/
def jgN (S : jaS) (nm : Nat → Nat) (n0 nK : Nat) : Prop := (∀ r, r < n0 → S.2 78 0 r = Int64.ofNat (nm r) ∧ nm r < 9223372036854775808) ∧ (∀ r, r < nK → S.2 78 0 (3 + r) = Int64.ofNat (nm (3 + r)) ∧ nm (3 + r) < 9223372036854775808) ∧ S.1 72 0 0 = nI n0 ∧ S.1 72 0 1 = nI nK
theorem jgN.f {S S' : jaS} {nm : Nat → Nat} {n0 nK : Nat} {A F : List Nat} (h : jgN S nm n0 nK) (f : jaFr A F S S') (h72 : 72 ∉ A) (h78 : 78 ∉ A) : jgN S' nm n0 nK := by
  unfold jgN
  rw [f.l 78 h78 (by decide), f.s 72 h72 (by decide)]
  exact h
abbrev jgH : List Nat := [74, 89]
set_option maxHeartbeats 4000000 in
theorem sp_M_operand {D : Nat} (hD : 6 ≤ D) {kk : Int32 → jaT → Prop} {σ : jaT} {S : jaS} {X : jtX} {nm : Nat → Nat} {n0 nK i o d : Nat} {l : List jbY} {stk : List Nat} (hR : jmN S X i) (hM : jgM S l o stk d 0) (hE : jgN S nm n0 nK) (h03 : n0 ≤ 3) (hK10 : nK ≤ 10) (ho : o ≤ 20) (hd : d ≤ 9) (hl : l.length < 45) (hs : stk.length < 45)
    (h1 : ¬ (jtK X i = 40 ∨ (115 ≤ jtK X i ∧ jtK X i ≤ 128)) → ∀ S', jmFl S' X 1 i → jaFr jgH jgG S S' → kk (nI 0) (jaU σ 20 S'))
    (h4 : (jtK X i = 40 ∨ (115 ≤ jtK X i ∧ jtK X i ≤ 128)) → (o = 20 ∨ d = 9) → ∀ S', jmFl S' X 4 i → jaFr jgH jgG S S' → kk (nI 0) (jaU σ 20 S'))
    (hp : ∀ c, ((jtK X i = 115 ∧ c = 20) ∨ (jtK X i = 40 ∧ c = 23)) → o < 20 → d < 9 → ∀ S', jmN S' X (i + 1) → jgM S' l (o + 1) (c :: stk) (d + 1) 0 → jaFr jgH jgG S S' → kk (nI 1) (jaU σ 20 S'))
    (hl1 : 116 ≤ jtK X i → jtK X i ≤ 128 → o < 20 → d < 9 → ∀ y i', jgLeaf X nm n0 nK i = .inr (y, i') → ∀ S', jmN S' X i' → jgM S' (l ++ [y]) (o + 1) stk d 1 → jaFr jgH jgG S S' → kk (nI 1) (jaU σ 20 S'))
    (hl0 : 116 ≤ jtK X i → jtK X i ≤ 128 → o < 20 → d < 9 → ∀ c p, jgLeaf X nm n0 nK i = .inl (c, p) → ∀ S', jmFl S' X c p → jaFr jgH jgG S S' → kk (nI 0) (jaU σ 20 S')) :
    jaDe D jy_M_operand [jaMo] (jaU σ 20 S) (jaKi kk) := by
  have hM' := hM
  obtain ⟨m45, mr, m46, ms, m48, m49⟩ := hM
  have hX := hR.1.2.1
  obtain ⟨D, rfl, hD⟩ := jaSuc hD
  have G : (jtK X i = 40 ∨ (115 ≤ jtK X i ∧ jtK X i ≤ 128)) → ∀ x3, (116 ≤ jtK X i → jtK X i ≤ 128 → x3 = nI (jtK X i - 116)) → jc_M_operand_1 D kk (jaB (jtK X i = 115)) (jaB (jtK X i = 40)) x3 (jaU σ 20 S) := by
    intro q x3 hx3
    have O2 : (o = 20 ∨ d = 9) → jc_M_operand_2 D kk (jaB (jtK X i = 115)) (jaB (jtK X i = 40)) x3 (jaU σ 20 S) := by
      intro qo
      apply jb_M_operand_2
      exact sp_M_bad (by omega) hR (fun S' a f => ⟨Or.inl rfl, h4 q qo S' a (f.mono (by decide) (by decide))⟩)
    apply jb_M_operand_1
    simp (disch := first | omega | decide) only [jaU_eq, jaU_U, nI_add, pk_mul, jaIx_nI, vp_inT, true_and, and_true, ↓jaO0, ↓jaO1, nI_z, nI_z2, nI_z3, nI_z4, nI_z5, nI_lt', nI_le', nI_eq', jaUI_at, jaPt_eq, jaPt_ne, jaUI_o, jaUI_2, jaUL_at, jaUL_o, jaUL_1, jaB_z, jaB_1, ↓jaB_01, Classical.not_not, and_self, true_or, or_true, nI_11, Nat.reduceEqDiff, Nat.reduceAdd, Nat.reduceMul, Nat.add_zero, Nat.zero_add, Nat.mul_zero, not_true_eq_false, not_false_eq_true, false_implies, true_implies, m46, m48]
    refine ⟨fun z => O2 (Or.inl z), fun z => ⟨fun z2 => ?_, fun z2 => O2 (Or.inr (by omega))⟩⟩
    have f1 : jaFr [] [46] S (jaUI S 70 0 46 (nI (o + 1))) := jaFr.rfl.uf (by decide)
    refine sp_M_next' (by omega) (hR.f f1 (by decide) (by decide) (by decide)) (fun S2 a2 f2 => ?_)
    have F2 : jaFr jgH jgG S S2 := (f1.mono (by decide) (by decide)).trans (f2.mono (by decide) (by decide))
    have M2 : jgM S2 l (o + 1) stk d 0 := by
      refine ⟨?_, ?_, ?_, ?_, ?_, ?_⟩
      · rw [f2.f 45 (by decide), f1.f 45 (by decide)]; exact m45
      · rw [f2.s 74 (by decide) (by decide), f1.s 74 (by decide) (by decide)]; exact mr
      · rw [f2.f 46 (by decide)]
        simp (disch := first | omega | decide) only [jaU_eq, jaU_U, nI_add, pk_mul, jaIx_nI, vp_inT, true_and, and_true, ↓jaO0, ↓jaO1, nI_z, nI_z2, nI_z3, nI_z4, nI_z5, nI_lt', nI_le', nI_eq', jaUI_at, jaPt_eq, jaPt_ne, jaUI_o, jaUI_2, jaUL_at, jaUL_o, jaUL_1, jaB_z, jaB_1, ↓jaB_01, Classical.not_not, and_self, true_or, or_true, nI_11, Nat.reduceEqDiff, Nat.reduceAdd, Nat.reduceMul, Nat.add_zero, Nat.zero_add, Nat.mul_zero, not_true_eq_false, not_false_eq_true, false_implies, true_implies]
      · unfold jgSt
        rw [f2.f 47 (by decide), f1.f 47 (by decide), f2.s 89 (by decide) (by decide), f1.s 89 (by decide) (by decide)]
        exact ms
      · rw [f2.f 48 (by decide), f1.f 48 (by decide)]; exact m48
      · rw [f2.f 49 (by decide), f1.f 49 (by decide)]; exact m49
    have E2 : jgN S2 nm n0 nK := hE.f F2 (by decide) (by decide)
    obtain ⟨n45, nr, n46, ns, n48, n49⟩ := M2
    have P : ∀ c, ((jtK X i = 115 ∧ c = 20) ∨ (jtK X i = 40 ∧ c = 23)) → jc_M_operand_6 D kk (jaB (jtK X i = 115)) (jaB (jtK X i = 40)) x3 (S2.1 70 0 47) (nI c) (jaU σ 20 S2) := by
      intro c hc
      apply jb_M_operand_6
      rw [ns.1]
      simp (disch := first | omega | decide) only [jaU_eq, jaU_U, nI_add, pk_mul, jaIx_nI, vp_inT, true_and, and_true, ↓jaO0, ↓jaO1, nI_z, nI_z2, nI_z3, nI_z4, nI_z5, nI_lt', nI_le', nI_eq', jaUI_at, jaPt_eq, jaPt_ne, jaUI_o, jaUI_2, jaUL_at, jaUL_o, jaUL_1, jaB_z, jaB_1, ↓jaB_01, Classical.not_not, and_self, true_or, or_true, nI_11, Nat.reduceEqDiff, Nat.reduceAdd, Nat.reduceMul, Nat.add_zero, Nat.zero_add, Nat.mul_zero, not_true_eq_false, not_false_eq_true, false_implies, true_implies, ns.1, n48]
      have f3 : jaFr [89] [47, 48] S2 (jaUI (jaUI (jaUI S2 89 0 stk.length (nI c)) 70 0 47 (nI (stk.length + 1))) 70 0 48 (nI (d + 1))) := ((jaFr.rfl.ui (by decide) (by decide)).uf (by decide)).uf (by decide)
      refine hp c hc (by omega) (by omega) _ (a2.f f3 (by decide) (by decide) (by decide)) ⟨?_, ?_, ?_, ?_, ?_, ?_⟩ (F2.trans (f3.mono (by decide) (by decide)))
      · rw [f3.f 45 (by decide)]; exact n45
      · rw [f3.s 74 (by decide) (by decide)]; exact nr
      · rw [f3.f 46 (by decide)]; exact n46
      · refine ns.push ?_ ?_ (by omega)
        · simp (disch := first | omega | decide) only [jaU_eq, jaU_U, nI_add, pk_mul, jaIx_nI, vp_inT, true_and, and_true, ↓jaO0, ↓jaO1, nI_z, nI_z2, nI_z3, nI_z4, nI_z5, nI_lt', nI_le', nI_eq', jaUI_at, jaPt_eq, jaPt_ne, jaUI_o, jaUI_2, jaUL_at, jaUL_o, jaUL_1, jaB_z, jaB_1, ↓jaB_01, Classical.not_not, and_self, true_or, or_true, nI_11, Nat.reduceEqDiff, Nat.reduceAdd, Nat.reduceMul, Nat.add_zero, Nat.zero_add, Nat.mul_zero, not_true_eq_false, not_false_eq_true, false_implies, true_implies]
        · rw [jaUI_o (by decide), jaUI_o (by decide), jaUI_at]
      · simp (disch := first | omega | decide) only [jaU_eq, jaU_U, nI_add, pk_mul, jaIx_nI, vp_inT, true_and, and_true, ↓jaO0, ↓jaO1, nI_z, nI_z2, nI_z3, nI_z4, nI_z5, nI_lt', nI_le', nI_eq', jaUI_at, jaPt_eq, jaPt_ne, jaUI_o, jaUI_2, jaUL_at, jaUL_o, jaUL_1, jaB_z, jaB_1, ↓jaB_01, Classical.not_not, and_self, true_or, or_true, nI_11, Nat.reduceEqDiff, Nat.reduceAdd, Nat.reduceMul, Nat.add_zero, Nat.zero_add, Nat.mul_zero, not_true_eq_false, not_false_eq_true, false_implies, true_implies]
      · rw [f3.f 49 (by decide)]; exact n49
    have P4 : (jtK X i = 115 ∨ jtK X i = 40) → jc_M_operand_4 D kk (jaB (jtK X i = 115)) (jaB (jtK X i = 40)) x3 (jaU σ 20 S2) := by
      intro qq
      apply jb_M_operand_4
      refine ⟨fun y => ?_, fun y => ?_⟩
      · rw [jaB_z] at y
        rw [jaU_eq]
        exact P 23 (Or.inr ⟨qq.resolve_left y, rfl⟩)
      · rw [jaB_z] at y
        rw [jaU_eq]
        exact P 20 (Or.inl ⟨Classical.not_not.mp y, rfl⟩)
    refine ⟨fun y => P4 (Or.inl y), fun y => ⟨fun y2 => ?_, fun y2 => P4 (Or.inr y2)⟩⟩
    -- a leaf
    have k1 : 116 ≤ jtK X i := by omega
    have k2 : jtK X i ≤ 128 := by omega
    have hx := hx3 k1 k2
    subst hx
    have hl1 := hl1 k1 k2 (by omega) (by omega)
    have hl0 := hl0 k1 k2 (by omega) (by omega)
    have f3 : jaFr [] [49] S2 (jaUI S2 70 0 49 (nI 1)) := jaFr.rfl.uf (by decide)
    have a3 : jmN (jaUI S2 70 0 49 (nI 1)) X (i + 1) := a2.f f3 (by decide) (by decide) (by decide)
    have F3 : jaFr jgH jgG S (jaUI S2 70 0 49 (nI 1)) := F2.trans (f3.mono (by decide) (by decide))
    have E3 : jgN (jaUI S2 70 0 49 (nI 1)) nm n0 nK := E2.f f3 (by decide) (by decide)
    have M3 : jgM (jaUI S2 70 0 49 (nI 1)) l (o + 1) stk d 1 := by
      refine ⟨?_, ?_, ?_, ?_, ?_, ?_⟩
      · rw [f3.f 45 (by decide)]; exact n45
      · rw [f3.s 74 (by decide) (by decide)]; exact nr
      · rw [f3.f 46 (by decide)]; exact n46
      · unfold jgSt
        rw [f3.f 47 (by decide), f3.s 89 (by decide) (by decide)]
        exact ns
      · rw [f3.f 48 (by decide)]; exact n48
      · simp (disch := first | omega | decide) only [jaU_eq, jaU_U, nI_add, pk_mul, jaIx_nI, vp_inT, true_and, and_true, ↓jaO0, ↓jaO1, nI_z, nI_z2, nI_z3, nI_z4, nI_z5, nI_lt', nI_le', nI_eq', jaUI_at, jaPt_eq, jaPt_ne, jaUI_o, jaUI_2, jaUL_at, jaUL_o, jaUL_1, jaB_z, jaB_1, ↓jaB_01, Classical.not_not, and_self, true_or, or_true, nI_11, Nat.reduceEqDiff, Nat.reduceAdd, Nat.reduceMul, Nat.add_zero, Nat.zero_add, Nat.mul_zero, not_true_eq_false, not_false_eq_true, false_implies, true_implies]
    have c14 : S2.1 70 0 14 = nI (jtTc (jtK X (i + 1))) := a2.1.2.2.2.2.2.1
    have c17 : jtTc (jtK X (i + 1)) = 3 → S2.1 70 0 17 = nI (jtK X (i + 1)) := a2.1.2.2.2.2.2.2.2.2.1
    have htc := jtTc_lt (K := jtK X (i + 1))
    have hK1 := jtK_lt hX (i := i + 1)
    have z0 : S2.1 72 0 0 = nI n0 := E2.2.2.1
    have z1 : S2.1 72 0 1 = nI nK := E2.2.2.2
    simp (disch := first | omega | decide) only [jaU_eq, jaU_U, nI_add, pk_mul, jaIx_nI, vp_inT, true_and, and_true, ↓jaO0, ↓jaO1, nI_z, nI_z2, nI_z3, nI_z4, nI_z5, nI_lt', nI_le', nI_eq', jaUI_at, jaPt_eq, jaPt_ne, jaUI_o, jaUI_2, jaUL_at, jaUL_o, jaUL_1, jaB_z, jaB_1, ↓jaB_01, Classical.not_not, and_self, true_or, or_true, nI_11, Nat.reduceEqDiff, Nat.reduceAdd, Nat.reduceMul, Nat.add_zero, Nat.zero_add, Nat.mul_zero, not_true_eq_false, not_false_eq_true, false_implies, true_implies, c14, z0, z1]
    generalize jaUI S2 70 0 49 (nI 1) = S3 at *
    have B13 : ¬ (60 ≤ jtK X (i + 1) ∧ jtK X (i + 1) ≤ 62) → 126 ≤ jtK X i → jc_M_operand_13 D kk (jaB (jtK X i = 115)) (jaB (jtK X i = 40)) (nI (jtK X i - 116)) (jaU σ 20 S3) := by
      intro w k3
      apply jb_M_operand_13
      refine sp_M_bad (by omega) a3 (fun S' a f => ⟨Or.inl rfl, hl0 1 (i + 1) ?_ S' a (F3.trans (f.mono (by decide) (by decide)))⟩)
      unfold jgLeaf
      rw [jaIf1_f (by omega), jaIf1_f (by omega), jaIf1_f (by omega), jaIf1_f w]
    have T10 : ∀ f0 n r10, ((jtK X i < 125 ∧ 123 ≤ jtK X i ∧ f0 = 3 ∧ n = nK) ∨ (jtK X i = 125 ∧ f0 = 0 ∧ n = n0)) → (∀ r, r < n → S3.2 78 0 (f0 + r) = Int64.ofNat (nm (f0 + r)) ∧ nm (f0 + r) < 9223372036854775808) → f0 + n ≤ 32 → n ≤ 10 → r10 = nI n → jaDe D jy_M_looksAt [jaMo, .inl (nI f0), .inl r10] (jaU σ 20 S3) (jaKi fun r10 σ9 => jc_M_operand_10 D kk (jaB (jtK X i = 115)) (jaB (jtK X i = 40)) (nI (jtK X i - 116)) r10 σ9) := by
      rintro f0 n r10 hc hn hb hn10 rfl
      have eL : jgLeaf X nm n0 nK i = jwB (jwNam X nm f0 n (i + 1)) fun r => .inr ((jtK X i - 116, 0, r), i + 2) := by
        unfold jgLeaf
        rcases hc with ⟨y1, y2, rfl, rfl⟩ | ⟨y1, rfl, rfl⟩
        · rw [jaIf1_f (by omega), jaIf1_t (by omega)]
        · rw [jaIf1_f (by omega), jaIf1_f (by omega), jaIf1_t y1, y1]
      refine sp_M_lok (f0 := f0) (by omega) a3 hn hb (fun r e S4 a4 b4 f4 => ?_) (fun c p e S4 a4 f4 => ?_)
      · have lt := (jwNam_r e).2.1
        rw [jwB_i e] at eL
        have M4 := M3.f f4 (by decide) (by decide) (by decide)
        apply jb_M_operand_10
        refine ⟨fun _ => ?_, fun z => absurd z (by decide)⟩
        rw [jaU_eq, b4]
        refine sp_M_code (by omega) M4 hl (fun S5 a5 f5 => ?_)
        refine sp_M_next' (by omega) (a4.f f5 (by decide) (by decide) (by decide)) (fun S6 a6 f6 => ?_)
        exact ⟨Or.inr rfl, hl1 _ _ eL S6 a6 (a5.f f6 (by decide) (by decide) (by decide)) (F3.trans ((f4.mono (by decide) (by decide)).trans ((f5.mono (by decide) (by decide)).trans (f6.mono (by decide) (by decide)))))⟩
      · rw [jwB_l e] at eL
        apply jb_M_operand_10
        exact ⟨fun z => absurd rfl z, fun _ => ⟨Or.inl rfl, hl0 c p eL S4 a4 (F3.trans (f4.mono (by decide) (by decide)))⟩⟩
    refine ⟨fun w7 => ⟨fun w10 => ⟨fun w3 => ?_, fun w3 => ?_⟩, fun w10 => ⟨fun w9 => ?_, fun w9 => ?_⟩⟩, fun w7 => ?_⟩
    · exact B13 (fun y => w3 (jtTc_s y.1 y.2)) (by omega)
    · rw [c17 w3]
      simp (disch := first | omega | decide) only [jaU_eq, jaU_U, nI_add, pk_mul, jaIx_nI, vp_inT, true_and, and_true, ↓jaO0, ↓jaO1, nI_z, nI_z2, nI_z3, nI_z4, nI_z5, nI_lt', nI_le', nI_eq', jaUI_at, jaPt_eq, jaPt_ne, jaUI_o, jaUI_2, jaUL_at, jaUL_o, jaUL_1, jaB_z, jaB_1, ↓jaB_01, Classical.not_not, and_self, true_or, or_true, nI_11, Nat.reduceEqDiff, Nat.reduceAdd, Nat.reduceMul, Nat.add_zero, Nat.zero_add, Nat.mul_zero, not_true_eq_false, not_false_eq_true, false_implies, true_implies]
      refine ⟨fun w60 => B13 (by omega) (by omega), fun w60 => ⟨fun w62 => ?_, fun w62 => B13 (by omega) (by omega)⟩⟩
      have q6 : 60 ≤ jtK X (i + 1) ∧ jtK X (i + 1) ≤ 62 := ⟨by omega, w62⟩
      refine sp_M_next' (by omega) a3 (fun S4 a4 f4 => ?_)
      have M4 : jgM S4 l (o + 1) stk d 1 := M3.f f4 (by decide) (by decide) (by decide)
      have d14 : S4.1 70 0 14 = nI (jtTc (jtK X (i + 2))) := a4.1.2.2.2.2.2.1
      have d17 : jtK X (i + 2) = 2 → S4.1 70 0 17 = nI (jtV X (i + 2)) := a4.1.2.2.2.2.2.2.2.1
      have htc2 := jtTc_lt (K := jtK X (i + 2))
      have F4 : jaFr jgH jgG S S4 := F3.trans (f4.mono (by decide) (by decide))
      simp (disch := first | omega | decide) only [jaU_eq, jaU_U, nI_add, pk_mul, jaIx_nI, vp_inT, true_and, and_true, ↓jaO0, ↓jaO1, nI_z, nI_z2, nI_z3, nI_z4, nI_z5, nI_lt', nI_le', nI_eq', jaUI_at, jaPt_eq, jaPt_ne, jaUI_o, jaUI_2, jaUL_at, jaUL_o, jaUL_1, jaB_z, jaB_1, ↓jaB_01, Classical.not_not, and_self, true_or, or_true, nI_11, Nat.reduceEqDiff, Nat.reduceAdd, Nat.reduceMul, Nat.add_zero, Nat.zero_add, Nat.mul_zero, not_true_eq_false, not_false_eq_true, false_implies, true_implies, d14]
      rw [jtTc_2]
      refine ⟨fun w2 => ?_, fun w2 => ?_⟩
      · rw [d17 w2]
        refine sp_M_code (by omega) M4 hl (fun S5 a5 f5 => ?_)
        refine sp_M_next' (by omega) (a4.f f5 (by decide) (by decide) (by decide)) (fun S6 a6 f6 => ?_)
        refine hl1 _ _ ?_ S6 a6 (a5.f f6 (by decide) (by decide) (by decide)) (F4.trans ((f5.mono (by decide) (by decide)).trans (f6.mono (by decide) (by decide))))
        unfold jgLeaf
        rw [jaIf1_f (by omega), jaIf1_f (by omega), jaIf1_f (by omega), jaIf1_t q6, jaIf1_t w2]
      · refine sp_M_bad (by omega) a4 (fun S' a f => ⟨Or.inl rfl, hl0 1 (i + 2) ?_ S' a (F4.trans (f.mono (by decide) (by decide)))⟩)
        unfold jgLeaf
        rw [jaIf1_f (by omega), jaIf1_f (by omega), jaIf1_f (by omega), jaIf1_t q6, jaIf1_f w2]
    · exact T10 0 n0 _ (Or.inr ⟨by omega, rfl, rfl⟩) (fun r hr => by rw [Nat.zero_add]; exact E3.1 r hr) (by omega) (by omega) rfl
    · exact T10 3 nK _ (Or.inl ⟨by omega, by omega, rfl, rfl⟩) E3.2.1 (by omega) (by omega) rfl
    · refine sp_M_code (by omega) M3 hl (fun S5 a5 f5 => ?_)
      refine hl1 _ _ ?_ S5 (a3.f f5 (by decide) (by decide) (by decide)) a5 (F3.trans (f5.mono (by decide) (by decide)))
      unfold jgLeaf
      rw [jaIf1_t (by omega)]
  apply js_M_operand
  refine sp_M_isWord (n := 15) (by omega) hR (by omega) (by decide +kernel) ?_
  refine sp_M_isSign (by omega) hR (by omega) (by decide) ?_
  refine sp_M_leafOf (by omega) hR (fun y1 y2 => ?_) (fun y => ?_)
  · have g := G (Or.inr ⟨by omega, y2⟩) _ (fun _ _ => rfl)
    exact ⟨fun _ => g, fun _ => ⟨fun _ => g, fun _ => ⟨fun _ => g, fun z => absurd (nI_pos' (by omega)) z⟩⟩⟩
  · simp (disch := first | omega | decide) only [jaU_eq, jaU_U, nI_add, pk_mul, jaIx_nI, vp_inT, true_and, and_true, ↓jaO0, ↓jaO1, nI_z, nI_z2, nI_z3, nI_z4, nI_z5, nI_lt', nI_le', nI_eq', jaUI_at, jaPt_eq, jaPt_ne, jaUI_o, jaUI_2, jaUL_at, jaUL_o, jaUL_1, jaB_z, jaB_1, ↓jaB_01, Classical.not_not, and_self, true_or, or_true, nI_11, Nat.reduceEqDiff, Nat.reduceAdd, Nat.reduceMul, Nat.add_zero, Nat.zero_add, Nat.mul_zero, not_true_eq_false, not_false_eq_true, false_implies, true_implies]
    refine ⟨fun q1 => G (Or.inr ⟨by omega, by omega⟩) _ (fun z1 z2 => absurd ⟨z1, z2⟩ y), fun q1 => ⟨fun q2 => G (Or.inl q2) _ (fun z1 z2 => absurd ⟨z1, z2⟩ y), fun q2 => ⟨fun z => absurd (show (0 : Int32) ≤ -1 from z) (by decide), fun _ => ?_⟩⟩⟩
    exact sp_M_bad (by omega) hR (fun S' a f => ⟨Or.inl rfl, h1 (by omega) S' a (f.mono (by decide) (by decide))⟩)
end
