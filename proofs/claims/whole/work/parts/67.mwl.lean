section
/-! the reference: all LINES of a WORLD -/
theorem jtTc_0 {K : Nat} : jtTc K = 0 ↔ K = 1 := by
  unfold jtTc
  by_cases q1 : K = 1
  · rw [if_pos q1]; exact ⟨fun _ => q1, fun _ => rfl⟩
  · rw [if_neg q1]
    refine ⟨fun z => ?_, fun z => absurd z q1⟩
    by_cases q2 : K = 2
    · rw [if_pos q2] at z; exact absurd z (by decide)
    · rw [if_neg q2] at z
      by_cases q3 : K = 3 ∨ 100 ≤ K
      · rw [if_pos q3] at z; exact absurd z (by decide)
      · rw [if_neg q3] at z
        by_cases w : K = 0 ∨ K = 46
        · rw [if_pos w] at z; exact absurd z (by decide)
        · rw [if_neg w] at z; exact absurd z (by decide)
/-- what the LINES leave -/
def jmE (S : jaS) (w : jwS) : Prop := (∀ j, j < 31 → S.1 73 0 j = jwUn w.1 j) ∧ ∀ j, j < 16 → jwU (jwUn w.1) j → S.2 78 0 (16 + j) = Int64.ofNat (w.2.1 j)
theorem sp_M_worldL {D : Nat} (hD : 7 ≤ D) {kk : Int32 → jaT → Prop} {σ : jaT} {S0 : jaS} {X : jtX} (hl : X.2.1 ≤ 940) : ∀ m w n i S, 941 ≤ i + m → n ≤ i → i ≤ 940 → jwW w → jwD w → jmW S w → jmN S X i → S.1 70 0 22 = nI n → jaFr [73, 78] (22 :: 23 :: jmG) S0 S → (∀ j, j < 16 → S.2 78 0 j = S0.2 78 0 j) →
    (∀ w' n', jwAll X m w n i = .inr (w', n') → jwW w' → jwD w' → ∀ S', jmE S' w' → S'.1 70 0 22 = nI n' → S'.1 70 0 18 = nI 0 → jaFr [73, 78] (22 :: 23 :: jmG) S0 S' → (∀ j, j < 16 → S'.2 78 0 j = S0.2 78 0 j) → jc_M_world_6 D kk (nI 0) (jaU σ 20 S')) → (∀ c p, jwAll X m w n i = .inl (c, p) → ∀ S', jmFl S' X c p → jaFr [73, 78] (22 :: 23 :: jmG) S0 S' → (∀ j, j < 16 → S'.2 78 0 j = S0.2 78 0 j) → kk ((-1) - nI (jtAt X p)) (jaU σ 20 S')) → jc_M_world_1 D kk (jaU σ 20 S) := by
  intro m
  induction m with
  | zero => intro w n i S hm hn hi; exact absurd hi (by omega)
  | succ m ih =>
    intro w n i S hm hn hi hw hd hc hR h22 f0 g0 K KF
    have ht := jtTc_lt (K := jtK X i)
    have e14 := hR.1.2.2.2.2.2.1
    have hw2 := hw.2.2.1
    have e2 : S.1 73 0 2 = nI (jz w.1 2) := (hc.1 2 (by decide)).trans hw2.1
    rw [jwAll] at K KF
    apply jb_M_world_1
    simp (disch := first | omega | decide) only [jaU_eq, jaU_U, nI_add, pk_mul, jaIx_nI, vp_inT, true_and, and_true, ↓jaO0, ↓jaO1, nI_z, nI_z2, nI_z3, nI_z4, nI_z5, nI_lt', nI_le', nI_eq', jaUI_at, jaPt_eq, jaPt_ne, jaUI_o, jaUI_2, jaUL_at, jaUL_o, jaUL_1, jaB_z, jaB_1, ↓jaB_01, Classical.not_not, and_self, true_or, or_true, nI_11, Nat.reduceEqDiff, Nat.reduceAdd, Nat.reduceMul, Nat.add_zero, Nat.zero_add, Nat.mul_zero, not_true_eq_false, not_false_eq_true, false_implies, true_implies, e14, e2]
    rw [jtTc_0]
    refine ⟨fun q => ⟨fun q2 => ?_, fun q2 => ?_⟩, fun q => ?_⟩
    · rw [jaIf1_t q] at K
      have eu : jwUn w.1 = w.1 := jaIf1_f q2
      refine K w n rfl hw hd S ⟨fun j hj => by rw [eu]; exact hc.1 j hj, fun j hj hu => ?_⟩ h22 hR.1.1.2.2.2.2 f0 g0
      rw [eu] at hu
      exact hc.2.2 j hj hu
    · rw [jaIf1_t q] at K
      have eu : jwUn w.1 = jaPt (jaPt w.1 2 (nI 1)) 25 (nI 1) := jaIf1_t q2
      refine K w n rfl hw hd _ ⟨fun j hj => ?_, fun j hj hu => ?_⟩ (by rw [jaUL_1, jaUI_o (by decide), jaUI_o (by decide)]; exact h22) (by rw [jaUL_1, jaUI_o (by decide), jaUI_o (by decide)]; exact hR.1.1.2.2.2.2) (((f0.ui (by decide) (by decide)).ui (by decide) (by decide)).lo (by decide) (by decide)) (fun j hj => ?_)
      · rw [eu, jaUL_1, jaUI_at, jaUI_at]
        unfold jaPt
        rw [hc.1 j hj]
      · rw [jaUL_at]
        by_cases y : j = 13
        · rw [y]
          have hz : w.2.1 13 = 0 := (hw.2.2.2.2.2.2.2.1 13 (by decide)).2 (fun z => by
            have a := hw.1.2
            have b := hw.2.1.2
            unfold jwU at z
            omega)
          rw [hz]
          exact if_pos rfl
        · refine (if_neg (by omega)).trans (hc.2.2 j hj ?_)
          rw [eu] at hu
          have z2 : jz (jaPt (jaPt w.1 2 (nI 1)) 25 (nI 1)) 2 = 1 := by rw [jz, jaPt_ne (by decide), jaPt_eq, jaIx_nI (by omega)]
          unfold jwU at hu ⊢
          rw [z2, jz_c (show jaPt (jaPt w.1 2 (nI 1)) 25 (nI 1) 0 = w.1 0 by rw [jaPt_ne (by decide), jaPt_ne (by decide)]), jz_c (show jaPt (jaPt w.1 2 (nI 1)) 25 (nI 1) 1 = w.1 1 by rw [jaPt_ne (by decide), jaPt_ne (by decide)])] at hu
          omega
      · rw [jaUL_at]
        exact (if_neg (by omega)).trans (g0 j hj)
    · rw [jaIf1_f q] at K KF
      refine sp_M_readLine (by omega) hR hc hw (fun w' i' e S1 a1 b1 f1 => ?_) (fun c p e S1 a1 f1 => ?_)
      · rw [jwB_i e] at K KF
        obtain ⟨hw', hii⟩ := jwLine_W hR.1.2.1 hw e
        have hd' := jwLine_D hw hd e
        have F1 : jaFr [73, 78] (22 :: 23 :: jmG) S0 S1 := f0.trans (f1.1.mono (by decide) (by decide))
        have G1 : ∀ j, j < 16 → S1.2 78 0 j = S0.2 78 0 j := fun j hj => (f1.2 j hj).trans (g0 j hj)
        refine ⟨fun z => absurd z (by decide), fun _ => ?_⟩
        refine sp_M_sign (c := 59) (by omega) b1 (by omega) rfl (fun q2 S2 a2 f2 => ?_) (fun q2 S2 a2 f2 => ?_)
        · rw [jaIf1_t q2] at K KF
          refine ⟨fun _ => ?_, fun z => absurd z (by decide)⟩
          have hin := jtK_in (X := X) (i := i') (by omega) (by omega)
          have c22 : S2.1 70 0 22 = nI n := by rw [f2.f 22 (by decide), f1.1.f 22 (by decide)]; exact h22
          have f3 : jaFr [] [22] S2 (jaUI S2 70 0 22 (nI (n + 1))) := jaFr.rfl.uf (by decide)
          simp (disch := first | omega | decide) only [jaU_eq, jaU_U, nI_add, pk_mul, jaIx_nI, vp_inT, true_and, and_true, ↓jaO0, ↓jaO1, nI_z, nI_z2, nI_z3, nI_z4, nI_z5, nI_lt', nI_le', nI_eq', jaUI_at, jaPt_eq, jaPt_ne, jaUI_o, jaUI_2, jaUL_at, jaUL_o, jaUL_1, jaB_z, jaB_1, ↓jaB_01, Classical.not_not, and_self, true_or, or_true, nI_11, Nat.reduceEqDiff, Nat.reduceAdd, Nat.reduceMul, Nat.add_zero, Nat.zero_add, Nat.mul_zero, not_true_eq_false, not_false_eq_true, false_implies, true_implies, c22]
          refine ih w' (n + 1) (i' + 1) _ (by omega) (by omega) (by omega) hw' hd' ⟨fun j hj => ?_, ?_, ?_⟩ (a2.f f3 (by decide) (by decide) (by decide)) (by simp (disch := first | omega | decide) only [jaU_eq, jaU_U, nI_add, pk_mul, jaIx_nI, vp_inT, true_and, and_true, ↓jaO0, ↓jaO1, nI_z, nI_z2, nI_z3, nI_z4, nI_z5, nI_lt', nI_le', nI_eq', jaUI_at, jaPt_eq, jaPt_ne, jaUI_o, jaUI_2, jaUL_at, jaUL_o, jaUL_1, jaB_z, jaB_1, ↓jaB_01, Classical.not_not, and_self, true_or, or_true, nI_11, Nat.reduceEqDiff, Nat.reduceAdd, Nat.reduceMul, Nat.add_zero, Nat.zero_add, Nat.mul_zero, not_true_eq_false, not_false_eq_true, false_implies, true_implies]) (F1.trans ((f2.mono (by decide) (by decide)).trans (f3.mono (by decide) (by decide)))) (fun j hj => ?_) K KF
          · rw [jaUI_o (by decide), f2.s 73 (by decide) (by decide)]
            exact a1.1 j hj
          · rw [f3.f 23 (by decide), f2.f 23 (by decide)]
            exact a1.2.1
          · exact jmM_c a1.2.2 (by rw [jaUI_2, f2.l 78 (by decide) (by decide)]) rfl rfl rfl
          · rw [jaUI_2, f2.l 78 (by decide) (by decide)]
            exact G1 j hj
        · rw [jaIf1_f q2] at KF
          refine ⟨fun z => absurd rfl z, fun _ => ?_⟩
          simp only [jaU_eq, a2.2]
          exact KF 1 i' rfl S2 a2 (F1.trans (f2.mono (by decide) (by decide))) (fun j hj => by rw [f2.l 78 (by decide) (by decide)]; exact G1 j hj)
      · rw [jwB_l e] at KF
        refine ⟨fun _ => ?_, fun z => absurd rfl z⟩
        simp only [jaU_eq, a1.2]
        exact KF c p rfl S1 a1 (f0.trans (f1.1.mono (by decide) (by decide))) (fun j hj => (f1.2 j hj).trans (g0 j hj))
end
