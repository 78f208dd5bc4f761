section
/-! the class: a BOOK read whole -/
def jbC (S : jaS) (ls : Nat → jbY) (cnt : Nat) : Prop := S.1 6 0 0 = nI cnt ∧ ∀ j, j < cnt → S.1 7 0 j = nI (109 + (ls j).1) ∧ S.1 8 0 j = nI (ls j).2.1 ∧ S.1 9 0 j = nI (ls j).2.2
set_option maxHeartbeats 1000000 in
theorem sp_Bo_read {D : Nat} (hD : 4 ≤ D) {kk : Int32 → jaT → Prop} {τ : jaT} {X : jtX} {nm : Nat → Nat} {k n0 n2 : Nat} {ls0 : Nat → jbY} (hk : k ≠ 0) (hR : jtR (τ 0) X 0) (hn : jcN (τ k) nm) (h30 : (τ k).1 30 0 0 = nI n0) (h32 : (τ k).1 30 0 2 = nI n2) (h03 : n0 ≤ 3) (h23 : n2 ≤ 3)
    (h : ∀ ls n, jbAll X nm n0 n2 41 ls0 0 0 = .inr (ls, n) → ∀ τ', jbC (τ' 0) ls n → jbF τ τ' → kk (nI 1) τ')
    (h0 : ∀ c p, jbAll X nm n0 n2 41 ls0 0 0 = .inl (c, p) → ∀ τ', jtFl (τ' 0) X c p → jbF τ τ' → kk (nI 0) τ') :
    jaDe D jy_Bo_read [.inr (.inr (6, 0, 0)), .inr (.inr (2, 0, 0)), jcWo k] τ (jaKi kk) := by
  obtain ⟨D, rfl, hD⟩ := jaSuc hD
  have L : ∀ m cnt i ls τ1, cnt + m = 41 → 1 ≤ m → jtR (τ1 0) X i → jbC (τ1 0) ls cnt → jbF τ τ1 → (∀ ls' n, jbAll X nm n0 n2 m ls cnt i = .inr (ls', n) → ∀ τ', jbC (τ' 0) ls' n → jbF τ τ' → kk (nI 1) τ') → (∀ c p, jbAll X nm n0 n2 m ls cnt i = .inl (c, p) → ∀ τ', jtFl (τ' 0) X c p → jbF τ τ' → kk (nI 0) τ') → jc_Bo_read_1 D kk k (nI cnt) τ1 := by
    intro m
    induction m with
    | zero => intro cnt i ls τ1 _ h1; exact absurd h1 (by omega)
    | succ m ih =>
      intro cnt i ls τ1 hm _ hR1 hc f1 h h0
      have hK := hR1.x
      rw [jbAll] at h h0
      apply jb_Bo_read_1
      simp (disch := first | omega | decide) only [jaU_eq, jaU_U, nI_add, pk_mul, jaIx_nI, vp_inT, true_and, and_true, ↓jaO0, ↓jaO1, nI_z, nI_z2, nI_z3, nI_z4, nI_z5, nI_lt', nI_le', nI_eq', jaUI_at, jaPt_eq, jaPt_ne, jaUI_o, jaUI_2, jaUL_at, jaUL_o, jaUL_1, jaB_z, jaB_1, ↓jaB_01, Classical.not_not, and_self, true_or, or_true, nI_11, Nat.reduceEqDiff, Nat.reduceAdd, Nat.reduceMul, Nat.add_zero, Nat.zero_add, Nat.mul_zero, not_true_eq_false, not_false_eq_true, false_implies, true_implies]
      refine ⟨fun z => absurd z (by omega), fun _ => ?_⟩
      refine sp_Rd_kind (by omega) hR1 ?_
      simp (disch := first | omega | decide) only [jaU_eq, jaU_U, nI_add, pk_mul, jaIx_nI, vp_inT, true_and, and_true, ↓jaO0, ↓jaO1, nI_z, nI_z2, nI_z3, nI_z4, nI_z5, nI_lt', nI_le', nI_eq', jaUI_at, jaPt_eq, jaPt_ne, jaUI_o, jaUI_2, jaUL_at, jaUL_o, jaUL_1, jaB_z, jaB_1, ↓jaB_01, Classical.not_not, and_self, true_or, or_true, nI_11, Nat.reduceEqDiff, Nat.reduceAdd, Nat.reduceMul, Nat.add_zero, Nat.zero_add, Nat.mul_zero, not_true_eq_false, not_false_eq_true, false_implies, true_implies]
      refine ⟨fun q => ?_, fun q => ?_⟩
      · rw [jaIf1_t q] at h
        exact h ls cnt rfl τ1 hc f1
      · rw [jaIf1_f q] at h h0
        have ek : τ1 k = τ k := f1.1 k hk
        refine sp_Bo_readLine (nm := nm) (i := i) (X := X) (by omega) hk hR1 (by rw [ek]; exact hn) (by rw [ek]; exact h30) (by rw [ek]; exact h32) h03 h23 hc.1 (by omega) (fun y i' e τ2 a1 a2 a3 a4 a5 a6 => ?_) (fun c p e τ2 a1 a2 => ?_)
        · rw [jwB_i e] at h h0
          have n40 := (jbLine_r h03 h23 e).2
          refine ⟨fun z => absurd z (by decide), fun _ => ?_⟩
          refine sp_Rd_take (c := 59) (by omega) a1 (by omega) (fun q2 S' s1 s2 s3 => ?_) (fun q2 S' s1 s2 s3 => ?_)
          · rw [jaIf1_t q2] at h h0
            have f2 : jtF2 τ2 (jaU τ2 0 S') := jtF2.u s1 s2
            refine ⟨fun _ => ?_, fun z => absurd z (by decide)⟩
            have z6 : S'.1 6 0 0 = nI cnt := by rw [s1 6 (by omega), a2]; exact hc.1
            simp (disch := first | omega | decide) only [jaU_eq, jaU_U, nI_add, pk_mul, jaIx_nI, vp_inT, true_and, and_true, ↓jaO0, ↓jaO1, nI_z, nI_z2, nI_z3, nI_z4, nI_z5, nI_lt', nI_le', nI_eq', jaUI_at, jaPt_eq, jaPt_ne, jaUI_o, jaUI_2, jaUL_at, jaUL_o, jaUL_1, jaB_z, jaB_1, ↓jaB_01, Classical.not_not, and_self, true_or, or_true, nI_11, Nat.reduceEqDiff, Nat.reduceAdd, Nat.reduceMul, Nat.add_zero, Nat.zero_add, Nat.mul_zero, not_true_eq_false, not_false_eq_true, false_implies, true_implies, z6]
            refine ih (cnt + 1) (i' + 1) (jbUp ls cnt y) _ (by omega) (by omega) ?_ ?_ ?_ h h0
            · rw [jaU_eq]
              exact s3.o (by rw [jaUI_o (by decide)]) (by rw [jaUI_o (by decide)]) (by rw [jaUI_o (by decide)]) rfl
            · rw [jaU_eq]
              refine ⟨by simp (disch := first | omega | decide) only [jaU_eq, jaU_U, nI_add, pk_mul, jaIx_nI, vp_inT, true_and, and_true, ↓jaO0, ↓jaO1, nI_z, nI_z2, nI_z3, nI_z4, nI_z5, nI_lt', nI_le', nI_eq', jaUI_at, jaPt_eq, jaPt_ne, jaUI_o, jaUI_2, jaUL_at, jaUL_o, jaUL_1, jaB_z, jaB_1, ↓jaB_01, Classical.not_not, and_self, true_or, or_true, nI_11, Nat.reduceEqDiff, Nat.reduceAdd, Nat.reduceMul, Nat.add_zero, Nat.zero_add, Nat.mul_zero, not_true_eq_false, not_false_eq_true, false_implies, true_implies], fun j hj => ?_⟩
              rw [jaUI_o (by decide), jaUI_o (by decide), jaUI_o (by decide), s1 7 (by omega), s1 8 (by omega), s1 9 (by omega), a3, a4, a5]
              unfold jbUp
              by_cases z : j = cnt
              · rw [if_pos z, z, jaPt_eq, jaPt_eq, jaPt_eq]
                exact ⟨rfl, rfl, rfl⟩
              · rw [if_neg z, jaPt_ne z, jaPt_ne z, jaPt_ne z]
                exact hc.2 j (by omega)
            · refine f1.trans (a6.trans (f2.b.trans ⟨fun q hq => ?_, fun o ho => ?_⟩))
              · rw [jaU_ne hq, jaU_ne hq]
              · rw [jaU_eq, jaU_eq, jaUI_o (by omega)]
          · rw [jaIf1_f q2] at h0
            exact ⟨fun z => absurd rfl z, fun _ => h0 1 i' rfl _ (by rw [jaU_eq]; exact s3) (f1.trans (a6.trans (jtF2.u s1 s2).b))⟩
        · rw [jwB_l e] at h0
          exact ⟨fun _ => h0 c p rfl τ2 a1 (f1.trans a2), fun z => absurd rfl z⟩
  apply js_Bo_read
  refine L 41 0 0 ls0 _ rfl (by omega) ?_ ⟨?_, fun j hj => absurd hj (by omega)⟩ ⟨fun q hq => jaU_ne hq, fun o ho => by rw [jaU_eq, jaUI_o (by omega)]⟩ h h0
  · rw [jaU_eq]
    exact hR.o (by rw [jaUI_o (by decide)]) (by rw [jaUI_o (by decide)]) (by rw [jaUI_o (by decide)]) rfl
  · rw [jaU_eq]
    simp (disch := first | omega | decide) only [jaU_eq, jaU_U, nI_add, pk_mul, jaIx_nI, vp_inT, true_and, and_true, ↓jaO0, ↓jaO1, nI_z, nI_z2, nI_z3, nI_z4, nI_z5, nI_lt', nI_le', nI_eq', jaUI_at, jaPt_eq, jaPt_ne, jaUI_o, jaUI_2, jaUL_at, jaUL_o, jaUL_1, jaB_z, jaB_1, ↓jaB_01, Classical.not_not, and_self, true_or, or_true, nI_11, Nat.reduceEqDiff, Nat.reduceAdd, Nat.reduceMul, Nat.add_zero, Nat.zero_add, Nat.mul_zero, not_true_eq_false, not_false_eq_true, false_implies, true_implies]
end
