section
/-! sentence -/
set_option maxHeartbeats 1000000 in
theorem jf_sentence : jFc jy_A_sentence jy_M_sentence [] := by
  intro σ hI
  have hW := hI.W
  have hR := hI.R
  obtain ⟨n, t⟩ := hI.T
  obtain ⟨X, X1, X2, hX, hT, h71⟩ := jTp_X t 200
  have hI' := hI
  obtain ⟨h1, h2, h3, ⟨w, w1, w2, w3⟩, h5, h6, h7, h8⟩ := hI'
  obtain ⟨-, -, -, nm, m1, m2, m3⟩ := h2
  have h0 := hW.w.1
  have hK := hW.w.2.1
  have hE : jgE (jz ((σ 20).1 72 0) 1) (jz ((σ 20).1 72 0) 0) nm (σ 1) := ⟨m1, hR.w.1.1.trans h0.1, hR.w.1.2.1.trans hK.1⟩
  have hN : jgN (σ 20) nm (jz ((σ 20).1 72 0) 0) (jz ((σ 20).1 72 0) 1) := ⟨fun r hr => ⟨m2 r (by omega) (Or.inl hr), (m1 r (by omega)).2⟩, fun r hr => ⟨m2 (3 + r) (by omega) (Or.inr (Or.inl ⟨by omega, by omega⟩)), (m1 (3 + r) (by omega)).2⟩, h0.1, hK.1⟩
  have hn2 : (σ 20).1 70 0 2 = nI X.2.1 := by rw [X1]; exact t.2.2.1
  have hn1 : (σ 0).1 0 0 1 = nI X.2.1 := by rw [X1]; exact t.2.1
  have hl : X.2.1 ≤ 940 := by rw [X1]; exact t.1
  have t4 := t.2.2.2
  -- the reference, at whatever the class left
  have MS : ∀ τ u, τ 20 = σ 20 → jgAll X nm (jz ((σ 20).1 72 0) 0) (jz ((σ 20).1 72 0) 1) = .inr u → (∀ R B', jgRow R u.1 → u.1.length ≤ 39 → 1 ≤ u.1.length → B'.1 72 0 = jvCp (jaPt ((σ 20).1 72 0) 525 (nI u.1.length)) 526 R 0 (3 * u.1.length) → B'.1 70 0 2 = nI 0 → B'.1 70 0 18 = nI 0 → jaFr [72, 74, 89] (0 :: 2 :: 3 :: 5 :: jgG) (σ 20) B' → jI (jaU τ 20 B')) → jaDe 12 jy_M_sentence [jaMo] τ (jaKi fun b σ2 => nI u.2 = b ∧ jI σ2) := by
    intro τ u e20 hu hk
    refine jaAk (k := 20) (B := σ 20) (P := fun τ => jaDe 12 jy_M_sentence [jaMo] τ (jaKi fun b σ2 => nI u.2 = b ∧ jI σ2)) e20 ?_
    refine sp_M_sentence (X := X) (nm := nm) (by omega) hn2 hl X2 hX h71 h8.1 hN h0.2 hK.2 rfl (fun u' hu' l39 l1 R B' hr b72 b2 b18 f => ?_) (fun c p hc => ?_)
    · rw [hu] at hu'
      have := Sum.inr.inj hu'
      subst this
      exact ⟨rfl, hk R B' hr l39 l1 b72 b2 b18 f⟩
    · rw [hu] at hc
      cases hc
  have MF : ∀ τ c p, τ 20 = σ 20 → jgAll X nm (jz ((σ 20).1 72 0) 0) (jz ((σ 20).1 72 0) 1) = .inl (c, p) → (∀ B', B'.1 70 0 18 = nI c → B'.1 70 0 2 = nI 0 → jaFr jgH (0 :: 2 :: 3 :: 5 :: jgG) (σ 20) B' → jI (jaU τ 20 B')) → jaDe 12 jy_M_sentence [jaMo] τ (jaKi fun b σ2 => (-1 : Int32) - nI (jtAt X p) = b ∧ jI σ2) := by
    intro τ c p e20 hu hk
    refine jaAk (k := 20) (B := σ 20) (P := fun τ => jaDe 12 jy_M_sentence [jaMo] τ (jaKi fun b σ2 => (-1 : Int32) - nI (jtAt X p) = b ∧ jI σ2)) e20 ?_
    refine sp_M_sentence (X := X) (nm := nm) (by omega) hn2 hl X2 hX h71 h8.1 hN h0.2 hK.2 rfl (fun u' hu' => ?_) (fun c' p' hc B' fl b2 f => ?_)
    · rw [hu] at hu'
      cases hu'
    · rw [hu] at hc
      have := Sum.inl.inj hc
      obtain ⟨rfl, rfl⟩ := Prod.mk.inj this
      exact ⟨rfl, hk B' fl.1 b2 f⟩
  apply js_A_sentence
  rw [jaAs (τ := σ) (k := 0) rfl]
  rw [← X2]
  refine sp_A_readTape (by omega) hX hT hn1 hl (by omega) (fun A' pf a1 a3 r => ?_)
  have a11 : A'.1 0 0 11 = nI w := (pf.2 11 (by decide) (by decide)).trans w2
  have e11 : nI 1 - nI w = nI (1 - w) := nI_sub w1
  simp (disch := first | omega | decide) only [jaU_eq, jaU_U, nI_add, pk_mul, jaIx_nI, vp_inT, true_and, and_true, ↓jaO0, ↓jaO1, nI_z, nI_z2, nI_z3, nI_z4, nI_z5, nI_lt', nI_le', nI_eq', jaUI_at, jaPt_eq, jaPt_ne, jaUI_o, jaUI_2, jaUL_at, jaUL_o, jaUL_1, jaB_z, jaB_1, ↓jaB_01, Classical.not_not, and_self, true_or, or_true, nI_11, Nat.reduceEqDiff, Nat.reduceAdd, Nat.reduceMul, Nat.add_zero, Nat.zero_add, Nat.mul_zero, not_true_eq_false, not_false_eq_true, false_implies, true_implies, a11, e11]
  have eE : jgE (jz ((σ 20).1 72 0) 1) (jz ((σ 20).1 72 0) 0) nm (jaU σ 0 A' 1) := by
    rw [jaU_ne (by decide)]
    exact hE
  refine sp_Sn_read (by omega) (by omega) (by omega) (by omega) h0.2 hK.2 (by rw [jaU_eq]; exact r) eE (fun u hu τ' c1 c2 fr => ?_) (fun c p hc τ' fl fr => ?_)
  · obtain ⟨f1, f2⟩ := fr
    rw [jaU_eq] at f2
    refine ⟨fun _ => ?_, fun z => absurd z (by decide)⟩
    have e14 : jaU τ' 0 (jaUI (τ' 0) 0 0 11 (nI (1 - w))) (14 + (1 - w)) = τ' (14 + (1 - w)) := jaU_ne (by omega)
    (try simp (disch := first | omega | decide) only [jaU_eq, jaU_U, nI_add, pk_mul, jaIx_nI, vp_inT, true_and, and_true, ↓jaO0, ↓jaO1, nI_z, nI_z2, nI_z3, nI_z4, nI_z5, nI_lt', nI_le', nI_eq', jaUI_at, jaPt_eq, jaPt_ne, jaUI_o, jaUI_2, jaUL_at, jaUL_o, jaUL_1, jaB_z, jaB_1, ↓jaB_01, Classical.not_not, and_self, true_or, or_true, nI_11, Nat.reduceEqDiff, Nat.reduceAdd, Nat.reduceMul, Nat.add_zero, Nat.zero_add, Nat.mul_zero, not_true_eq_false, not_false_eq_true, false_implies, true_implies, e14])
    rw [c1.2.1]
    generalize hτ : jaU τ' 0 (jaUI (τ' 0) 0 0 11 (nI (1 - w))) = τ
    have τ0 : τ 0 = jaUI (τ' 0) 0 0 11 (nI (1 - w)) := by rw [← hτ, jaU_eq]
    have τn : ∀ q, q ≠ 0 → q ≠ 14 + (1 - w) → τ q = σ q := fun q h1 h2 => by rw [← hτ, jaU_ne h1, f1 q h1 h2, jaU_ne h1]
    have τz : τ (14 + (1 - w)) = τ' (14 + (1 - w)) := by rw [← hτ, jaU_ne (by omega)]
    have T0 : ∀ j, j ≠ 1 → j ≠ 3 → j ≠ 11 → (τ 0).1 0 0 j = (σ 0).1 0 0 j := fun j g1 g3 g11 => by
      rw [τ0, jaUI_at, jaPt_ne g11, f2 0 (by omega), pf.2 j g1 g3]
    have Tv : ∀ j, j ≠ 11 → (τ 0).1 0 0 j = A'.1 0 0 j := fun j g11 => by
      rw [τ0, jaUI_at, jaPt_ne g11, f2 0 (by omega)]
    have To : ∀ o, o = 1 ∨ 5 ≤ o → (τ 0).1 o = (σ 0).1 o := fun o ho => by
      have hne : o ≠ 0 := by omega
      rw [τ0, ← pf.1 o ho, ← f2 o (by omega)]
      funext a
      simp (disch := first | omega | decide) only [jaU_eq, jaU_U, nI_add, pk_mul, jaIx_nI, vp_inT, true_and, and_true, ↓jaO0, ↓jaO1, nI_z, nI_z2, nI_z3, nI_z4, nI_z5, nI_lt', nI_le', nI_eq', jaUI_at, jaPt_eq, jaPt_ne, jaUI_o, jaUI_2, jaUL_at, jaUL_o, jaUL_1, jaB_z, jaB_1, ↓jaB_01, Classical.not_not, and_self, true_or, or_true, nI_11, Nat.reduceEqDiff, Nat.reduceAdd, Nat.reduceMul, Nat.add_zero, Nat.zero_add, Nat.mul_zero, not_true_eq_false, not_false_eq_true, false_implies, true_implies, hne]
    have hx := jgAll_x hX h0.2 hK.2 hu
    refine MS τ u (τn 20 (by decide) (by omega)) hu (fun R B' hr l39 l1 b72 b2 b18 f => ?_)
    have bs : ∀ o, o ∉ [72, 74, 89] → o ≠ 70 → B'.1 o = (σ 20).1 o := fun o h1 h2 => f.s o h1 h2
    refine jI_Z (w' := 1 - w) hI (by omega) (fun q q0 q14 q15 _ => τn q q0 (by omega)) ⟨⟨0, by decide, (Tv 1 (by decide)).trans a1, b2⟩, by rw [Tv 3 (by decide), a3, b18], fun j hj => ?_⟩ ?_ ?_ (fun j hj => T0 j (fun e => by rw [e] at hj; revert hj; decide) (fun e => by rw [e] at hj; revert hj; decide) (fun e => by rw [e] at hj; revert hj; decide)) (by rw [τ0, jaUI_at, jaPt_eq]) (by rw [To 15 (by decide)]) ?_ (fun j hj => ?_) (fun o ho => bs o (by revert ho; revert o; decide) (by rintro rfl; revert ho; decide)) (fun o ho => f.l o (by revert ho; revert o; decide) (by rintro rfl; revert ho; decide)) (f.f 33 (by decide))
    · rw [To 1 (by decide), bs 71 (by decide) (by decide)]
      exact t4 j hj
    · unfold jIb
      rw [T0 17 (by decide) (by decide) (by decide), To 10 (by decide), f.f 43 (by decide), bs 88 (by decide) (by decide)]
      exact h6
    · unfold jIf
      rw [To 16 (by decide), To 17 (by decide), f.f 37 (by decide), f.f 38 (by decide), f.f 39 (by decide), bs 86 (by decide) (by decide)]
      exact h7
    · rw [τz, b72]
      refine Or.inr ⟨u.1, l1, l39, ?_, c2, ⟨c1.1, c1.2.2⟩, ?_, hx.2, hx.1⟩
      · rw [jvCp_out (Or.inl (by decide)), jaPt_eq]
      · refine jgRow_c (fun j hj => ?_) hr
        rw [jvCp_in hj, Nat.zero_add]
    · rw [b72, jvCp_out (Or.inl (by omega)), jaPt_ne (by omega)]
  · obtain ⟨f1, f2⟩ := fr
    rw [jaU_eq] at f2
    refine ⟨fun z => absurd rfl z, fun _ => ?_⟩
    refine sp_A_faultBelow (by omega) fl ?_
    generalize hτ : jaU τ' 0 (jaUI (τ' 0) 0 0 3 (nI c)) = τ
    have τ0 : τ 0 = jaUI (τ' 0) 0 0 3 (nI c) := by rw [← hτ, jaU_eq]
    have τn : ∀ q, q ≠ 0 → q ≠ 14 + (1 - w) → τ q = σ q := fun q h1 h2 => by rw [← hτ, jaU_ne h1, f1 q h1 h2, jaU_ne h1]
    have T0 : ∀ j, j ≠ 1 → j ≠ 3 → (τ 0).1 0 0 j = (σ 0).1 0 0 j := fun j g1 g3 => by
      rw [τ0, jaUI_at, jaPt_ne g3, f2 0 (by omega), pf.2 j g1 g3]
    have To : ∀ o, o = 1 ∨ 5 ≤ o → (τ 0).1 o = (σ 0).1 o := fun o ho => by
      have hne : o ≠ 0 := by omega
      rw [τ0, ← pf.1 o ho, ← f2 o (by omega)]
      funext a
      simp (disch := first | omega | decide) only [jaU_eq, jaU_U, nI_add, pk_mul, jaIx_nI, vp_inT, true_and, and_true, ↓jaO0, ↓jaO1, nI_z, nI_z2, nI_z3, nI_z4, nI_z5, nI_lt', nI_le', nI_eq', jaUI_at, jaPt_eq, jaPt_ne, jaUI_o, jaUI_2, jaUL_at, jaUL_o, jaUL_1, jaB_z, jaB_1, ↓jaB_01, Classical.not_not, and_self, true_or, or_true, nI_11, Nat.reduceEqDiff, Nat.reduceAdd, Nat.reduceMul, Nat.add_zero, Nat.zero_add, Nat.mul_zero, not_true_eq_false, not_false_eq_true, false_implies, true_implies, hne]
    refine MF τ c p (τn 20 (by decide) (by omega)) hc (fun B' b18 b2 f => ?_)
    have bs : ∀ o, o ∉ jgH → o ≠ 70 → B'.1 o = (σ 20).1 o := fun o h1 h2 => f.s o h1 h2
    refine jI_Z (w' := w) hI w1 (fun q q0 q14 q15 _ => τn q q0 (by omega)) ⟨⟨0, by decide, ?_, b2⟩, ?_, fun j hj => ?_⟩ ?_ ?_ (fun j hj => T0 j (fun e => by rw [e] at hj; revert hj; decide) (fun e => by rw [e] at hj; revert hj; decide)) ((T0 11 (by decide) (by decide)).trans w2) (by rw [To 15 (by decide)]) ?_ (fun j hj => by rw [bs 72 (by decide) (by decide)]) (fun o ho => bs o (by revert ho; revert o; decide) (by rintro rfl; revert ho; decide)) (fun o ho => f.l o (by revert ho; revert o; decide) (by rintro rfl; revert ho; decide)) (f.f 33 (by decide))
    · rw [τ0, jaUI_at, jaPt_ne (by decide), f2 0 (by omega)]
      exact a1
    · rw [τ0, jaUI_at, jaPt_eq, b18]
    · rw [To 1 (by decide), bs 71 (by decide) (by decide)]
      exact t4 j hj
    · unfold jIb
      rw [T0 17 (by decide) (by decide), To 10 (by decide), f.f 43 (by decide), bs 88 (by decide) (by decide)]
      exact h6
    · unfold jIf
      rw [To 16 (by decide), To 17 (by decide), f.f 37 (by decide), f.f 38 (by decide), f.f 39 (by decide), bs 86 (by decide) (by decide)]
      exact h7
    · rw [τn (14 + w) (by omega) (by omega), bs 72 (by decide) (by decide)]
      exact w3
end
