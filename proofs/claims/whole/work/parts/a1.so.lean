section
/-! so -/
set_option maxHeartbeats 1000000 in
theorem jf_so : jFc jy_A_so jy_M_so [] := by
  intro σ hI
  have hW := hI.W
  have hR := hI.R
  obtain ⟨n, t⟩ := hI.T
  obtain ⟨X, X1, X2, hX, hT, h71⟩ := jTp_X t 0
  have hI' := hI
  obtain ⟨h1, h2, h3, h4, h5, h6, h7, h8⟩ := hI'
  have t4 := t.2.2.2
  generalize hs : (σ 20).1 72 0 = s at *
  generalize hd : (σ 20).1 75 0 = d at *
  generalize he : (σ 20).1 76 0 = e at *
  have cA : ∀ j, j < n → (σ 0).1 1 0 j = nI (X.1 j) ∧ X.1 j < 256 := fun j hj => hT j (by have := t.1; omega)
  have cM : ∀ j, j < n → (σ 20).1 71 0 j &&& nI 255 = nI (X.1 j) ∧ X.1 j < 256 := fun j hj => ⟨h71 j (by have := t.1; omega), hX j⟩
  have f0 : jaFr [] [0] (σ 20) (jaUI (σ 20) 70 0 0 (nI 0)) := jaFr.rfl.uf (by decide)
  generalize hτ : jaU σ 0 (jaUI (σ 0) 0 0 1 (nI 0)) = τ
  have τ0 : τ 0 = jaUI (σ 0) 0 0 1 (nI 0) := by rw [← hτ, jaU_eq]
  have τn : ∀ q, q ≠ 0 → τ q = σ q := fun q h1 => by rw [← hτ, jaU_ne h1]
  have To : ∀ o, o ≠ 0 → (τ 0).1 o = (σ 0).1 o := fun o ho => by
    rw [τ0]
    funext a
    simp (disch := first | omega | decide) only [jaU_eq, jaU_U, nI_add, pk_mul, jaIx_nI, vp_inT, true_and, and_true, ↓jaO0, ↓jaO1, nI_z, nI_z2, nI_z3, nI_z4, nI_z5, nI_lt', nI_le', nI_eq', jaUI_at, jaPt_eq, jaPt_ne, jaUI_o, jaUI_2, jaUL_at, jaUL_o, jaUL_1, jaB_z, jaB_1, ↓jaB_01, Classical.not_not, and_self, true_or, or_true, nI_11, Nat.reduceEqDiff, Nat.reduceAdd, Nat.reduceMul, Nat.add_zero, Nat.zero_add, Nat.mul_zero, not_true_eq_false, not_false_eq_true, false_implies, true_implies, ho]
  have T0 : ∀ j, j ≠ 1 → (τ 0).1 0 0 j = (σ 0).1 0 0 j := fun j g1 => by rw [τ0, jaUI_at, jaPt_ne g1]
  have T1 : (τ 0).1 0 0 1 = nI 0 := by rw [τ0, jaUI_at, jaPt_eq]
  apply js_A_so
  simp only [hτ]
  rw [t.2.1]
  refine sp_Se_find (c := X.1) (by omega) (by decide) (by rw [τn 1 (by decide)]; exact hR) hW t.1 (fun j hj => by rw [To 1 (by decide)]; exact cA j hj) (fun hn => ?_) (fun hy L hL τ' fF fC f2 => ?_)
  · refine jaAk (k := 20) (B := σ 20) (P := fun τ => jaDe 12 jy_M_so [jaMo] τ (jaKi fun b σ2 => (-1 : Int32) = b ∧ jI σ2)) (τn 20 (by decide)) ?_
    refine sp_M_so (c := X.1) (s := s) (d := d) (e := e) (by omega) t.2.2.1 t.1 cM hs hd he hW (fun _ B' b2 f => ⟨rfl, ?_⟩) (fun z => absurd z hn)
    refine jI_A hI (fun q q0 _ _ => τn q q0) ⟨⟨0, by decide, T1, b2⟩, by rw [T0 3 (by decide), f.f 18 (by decide)]; exact h1.2.1, fun j hj => ?_⟩ ?_ ?_ (fun j hj => T0 j (fun e => by rw [e] at hj; revert hj; decide)) (by rw [To 15 (by decide)]) (fun o ho => f.s o (by simp) (by rintro rfl; revert ho; decide)) (fun o ho => f.l o (by simp) (by rintro rfl; revert ho; decide)) (f.f 33 (by decide))
    · rw [To 1 (by decide), f.s 71 (by decide) (by decide)]
      exact t4 j hj
    · unfold jIb
      rw [T0 17 (by decide), To 10 (by decide), f.f 43 (by decide), f.s 88 (by decide) (by decide)]
      exact h6
    · unfold jIf
      rw [To 16 (by decide), To 17 (by decide), f.f 37 (by decide), f.f 38 (by decide), f.f 39 (by decide), f.s 86 (by decide) (by decide)]
      exact h7
  · obtain ⟨F1, F2, F3, F4⟩ := fF
    rw [τn 1 (by decide)] at F2
    have h1' := jI_1 (S' := τ' 1) hI (fun o a b _ => F2.1 o (by simp [a, b])) F2.2
    refine jaAk (k := 20) (B := σ 20) (P := fun τ => jaDe 12 jy_M_so [jaMo] τ (jaKi fun b σ2 => nI L.length = b ∧ jI σ2)) ((F1 20 (by decide) (by decide)).trans (τn 20 (by decide))) ?_
    refine sp_M_so (c := X.1) (s := s) (d := d) (e := e) (by omega) t.2.2.1 t.1 cM hs hd he hW (fun z => absurd hy z) (fun _ L' hL' B' fD b0 b1 b2 f => ?_)
    rw [← hL] at hL'
    subst hL'
    refine ⟨rfl, ?_⟩
    have e20 : jaU σ 1 (τ' 1) 20 = σ 20 := jaU_ne (by decide)
    have e00 : jaU σ 1 (τ' 1) 0 = σ 0 := jaU_ne (by decide)
    have A0 : ∀ o, o < 16 ∨ 20 ≤ o → (τ' 0).1 o = (τ 0).1 o := F3
    refine jI_A h1' (fun q q0 _ _ => ?_) ⟨⟨0, by decide, ?_, b2⟩, ?_, fun j hj => ?_⟩ ?_ ?_ (fun j hj => ?_) ?_ (fun o ho => by rw [e20]; exact f.s o (by revert ho; revert o; decide) (by rintro rfl; revert ho; decide)) (fun o ho => by rw [e20]; exact f.l o (by revert ho; revert o; decide) (by rintro rfl; revert ho; decide)) (by rw [e20]; exact f.f 33 (by decide))
    · by_cases q1 : q = 1
      · rw [q1, jaU_eq]
      · rw [jaU_ne q1, F1 q q0 q1, τn q q0]
    · rw [A0 0 (by decide)]
      exact T1
    · rw [A0 0 (by decide), T0 3 (by decide), f.f 18 (by decide)]
      exact h1.2.1
    · rw [A0 1 (by decide), To 1 (by decide), f.s 71 (by decide) (by decide)]
      exact t4 j hj
    · unfold jIb
      rw [A0 0 (by decide), A0 10 (by decide), T0 17 (by decide), To 10 (by decide), f.f 43 (by decide), f.s 88 (by decide) (by decide)]
      exact h6
    · refine ⟨⟨L', Or.inl fD.1, fC.1, ?_, fun j q hj => ⟨(fC.2.1 j q hj).1, (fD.2.1 j q hj).1⟩⟩, ?_⟩
      · rw [hL]
        have h40 := hW.o.ord.2
        exact Nat.le_trans (jfL_l _) (by omega)
      · by_cases l0 : L'.length = 0
        · rw [jaIf1_t l0, To 16 (by decide)] at f2
          rw [f2, (b0 l0).1, (b0 l0).2]
          exact h7.2
        · rw [jaIf1_f l0] at f2
          exact Or.inr ⟨(b1 l0).1, f2.trans (b1 l0).2.symm⟩
    · rw [A0 0 (by decide), e00]
      exact T0 j (fun e => by rw [e] at hj; revert hj; decide)
    · rw [A0 15 (by decide), e00, To 15 (by decide)]
end
