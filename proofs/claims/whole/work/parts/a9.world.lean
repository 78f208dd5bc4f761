section
/-! world: class, then reference -/
set_option maxHeartbeats 1000000 in
theorem jf_world : jFc jy_A_world jy_M_world [] := by
  intro σ hI
  have hW := hI.W
  obtain ⟨n, t⟩ := hI.T
  obtain ⟨X, X1, X2, hX, hT, h71⟩ := jTp_X t 900
  have hI' := hI
  obtain ⟨h1, h2, h3, ⟨w, w1, w2, w3⟩, h5, h6, h7, h8⟩ := hI'
  have hn2 : (σ 20).1 70 0 2 = nI X.2.1 := by rw [X1]; exact t.2.2.1
  have hn1 : (σ 0).1 0 0 1 = nI X.2.1 := by rw [X1]; exact t.2.1
  have hl : X.2.1 ≤ 940 := by rw [X1]; exact t.1
  have t4 := t.2.2.2
  apply js_A_world
  rw [jaAs (τ := σ) (k := 0) rfl]
  rw [← X2]
  refine sp_A_readTape (by omega) hX hT hn1 hl (by omega) (fun A' pf a1 a3 r => ?_)
  have n13 : jaU σ 0 A' 13 = σ 13 := jaU_ne (by decide)
  refine sp_Wo_read (by omega) (by decide) (by rw [jaU_eq]; exact r) hl (by rw [n13]; exact h8.2) (fun u nl hu hw hd τ' c1 c2 fr => ?_) (fun c p hc τ' fl fr hb => ?_)
  · obtain ⟨f1, f2⟩ := fr
    rw [jaU_eq] at f2
    obtain ⟨N1, N2⟩ := jwAll_N hX 941 jwNo 0 0 u nl jwNo_W.1 jwNo_N hu
    refine ⟨fun _ => ?_, fun z => absurd (nI_pos' (by omega)) z⟩
    have hwu := jwUn_W hw hd
    rw [jaAs (τ := τ') (k := 1) rfl]
    refine sp_St_start (s := (σ 20).1 72 0) (d := (σ 20).1 75 0) (e := (σ 20).1 76 0) (by omega) (by decide) rfl c1 hwu (fun S1 r1 _ n1 => ?_)
    have e0 : jaU τ' 1 S1 0 = τ' 0 := jaU_ne (by decide)
    have e11 : (τ' 0).1 0 0 11 = nI w := by rw [f2 0 (by omega)]; exact (pf.2 11 (by decide) (by decide)).trans w2
    simp (disch := first | omega | decide) only [jaU_eq, jaU_U, nI_add, pk_mul, jaIx_nI, vp_inT, true_and, and_true, ↓jaO0, ↓jaO1, nI_z, nI_z2, nI_z3, nI_z4, nI_z5, nI_lt', nI_le', nI_eq', jaUI_at, jaPt_eq, jaPt_ne, jaUI_o, jaUI_2, jaUL_at, jaUL_o, jaUL_1, jaB_z, jaB_1, ↓jaB_01, Classical.not_not, and_self, true_or, or_true, nI_11, Nat.reduceEqDiff, Nat.reduceAdd, Nat.reduceMul, Nat.add_zero, Nat.zero_add, Nat.mul_zero, not_true_eq_false, not_false_eq_true, false_implies, true_implies, e0, e11]
    apply js_Sn_forget
    refine ⟨Or.inl rfl, ?_⟩
    apply js_A_forgetKept
    have e0' : ∀ V, jaU (jaU τ' 1 S1) (14 + w) V 0 = τ' 0 := fun V => by rw [jaU_ne (by omega), e0]
    simp only [jaU_eq, jaU_U, e0']
    generalize hV : jaUI (jaUI (jaUI (jaU τ' 1 S1 (14 + w)) 20 0 0 (nI 0)) 20 0 1 (nI 0)) 20 0 2 (nI 0) = V
    have V0 : V.1 20 0 0 = nI 0 := by
      rw [← hV]
      simp (disch := first | omega | decide) only [jaU_eq, jaU_U, nI_add, pk_mul, jaIx_nI, vp_inT, true_and, and_true, ↓jaO0, ↓jaO1, nI_z, nI_z2, nI_z3, nI_z4, nI_z5, nI_lt', nI_le', nI_eq', jaUI_at, jaPt_eq, jaPt_ne, jaUI_o, jaUI_2, jaUL_at, jaUL_o, jaUL_1, jaB_z, jaB_1, ↓jaB_01, Classical.not_not, and_self, true_or, or_true, nI_11, Nat.reduceEqDiff, Nat.reduceAdd, Nat.reduceMul, Nat.add_zero, Nat.zero_add, Nat.mul_zero, not_true_eq_false, not_false_eq_true, false_implies, true_implies]
    have V2 : V.1 20 0 2 = nI 0 := by
      rw [← hV]
      simp (disch := first | omega | decide) only [jaU_eq, jaU_U, nI_add, pk_mul, jaIx_nI, vp_inT, true_and, and_true, ↓jaO0, ↓jaO1, nI_z, nI_z2, nI_z3, nI_z4, nI_z5, nI_lt', nI_le', nI_eq', jaUI_at, jaPt_eq, jaPt_ne, jaUI_o, jaUI_2, jaUL_at, jaUL_o, jaUL_1, jaB_z, jaB_1, ↓jaB_01, Classical.not_not, and_self, true_or, or_true, nI_11, Nat.reduceEqDiff, Nat.reduceAdd, Nat.reduceMul, Nat.add_zero, Nat.zero_add, Nat.mul_zero, not_true_eq_false, not_false_eq_true, false_implies, true_implies]
    generalize hτ : jaU (jaU (jaU τ' 1 S1) (14 + w) V) 0 (jaUI (jaUI (τ' 0) 0 0 9 (nI 0)) 0 0 8 (nI 0)) = τ
    have τ0 : τ 0 = jaUI (jaUI (τ' 0) 0 0 9 (nI 0)) 0 0 8 (nI 0) := by rw [← hτ, jaU_eq]
    have τ1 : τ 1 = S1 := by rw [← hτ, jaU_ne (by omega), jaU_ne (by omega), jaU_eq]
    have τ2 : τ (14 + w) = V := by rw [← hτ, jaU_ne (by omega), jaU_eq]
    have τ13 : τ 13 = τ' 13 := by rw [← hτ, jaU_ne (by omega), jaU_ne (by omega), jaU_ne (by omega)]
    have τn : ∀ q, q ≠ 0 → q ≠ 1 → q ≠ 14 + w → q ≠ 13 → τ q = σ q := fun q h1 h2 h3 h4 => by rw [← hτ, jaU_ne h1, jaU_ne h3, jaU_ne h2, f1 q h1 h4, jaU_ne h1]
    have T0 : ∀ j, j ≠ 1 → j ≠ 3 → j ≠ 8 → j ≠ 9 → (τ 0).1 0 0 j = (σ 0).1 0 0 j := fun j g1 g3 g8 g9 => by
      rw [τ0, jaUI_at, jaPt_ne g8, jaUI_at, jaPt_ne g9, f2 0 (by omega), pf.2 j g1 g3]
    have Tv : ∀ j, j ≠ 8 → j ≠ 9 → (τ 0).1 0 0 j = A'.1 0 0 j := fun j g8 g9 => by
      rw [τ0, jaUI_at, jaPt_ne g8, jaUI_at, jaPt_ne g9, f2 0 (by omega)]
    have To : ∀ o, o = 1 ∨ 5 ≤ o → (τ 0).1 o = (σ 0).1 o := fun o ho => by
      have hne : o ≠ 0 := by omega
      rw [τ0, ← pf.1 o ho, ← f2 o (by omega)]
      funext a
      simp (disch := first | omega | decide) only [jaU_eq, jaU_U, nI_add, pk_mul, jaIx_nI, vp_inT, true_and, and_true, ↓jaO0, ↓jaO1, nI_z, nI_z2, nI_z3, nI_z4, nI_z5, nI_lt', nI_le', nI_eq', jaUI_at, jaPt_eq, jaPt_ne, jaUI_o, jaUI_2, jaUL_at, jaUL_o, jaUL_1, jaB_z, jaB_1, ↓jaB_01, Classical.not_not, and_self, true_or, or_true, nI_11, Nat.reduceEqDiff, Nat.reduceAdd, Nat.reduceMul, Nat.add_zero, Nat.zero_add, Nat.mul_zero, not_true_eq_false, not_false_eq_true, false_implies, true_implies, hne]
    refine jaAk (k := 20) (B := σ 20) (P := fun τ => jaDe 12 jy_M_world [jaMo] τ (jaKi fun b σ2 => nI nl = b ∧ jI σ2)) (τn 20 (by decide) (by decide) (by omega) (by decide)) ?_
    refine sp_M_world (X := X) (by omega) hn2 hl X2 hX h71 h8.1 rfl (fun u' n' hu' hw' hd' B' b72 b78 b33 b2 b18 f => ?_) (fun c p hc => ?_)
    · rw [hu] at hu'
      have := Sum.inr.inj hu'
      obtain ⟨rfl, rfl⟩ := Prod.mk.inj this
      refine ⟨rfl, ?_⟩
      have bs : ∀ o, o ∉ [72, 73, 78] → o ≠ 70 → B'.1 o = (σ 20).1 o := fun o h1 h2 => f.s o h1 h2
      have bl : ∀ o, o ∉ [72, 73, 78] → o ≠ 70 → B'.2 o = (σ 20).2 o := fun o h1 h2 => f.l o h1 h2
      have nn : ∀ q, q ≠ 20 → jaU τ 20 B' q = τ q := fun q hq => jaU_ne hq
      have E20 : jaU τ 20 B' 20 = B' := jaU_eq
      have z31 : jz (jvW0 ((σ 20).1 72 0) (jwUn u.1)) 31 = 0 := jvW0_z (by omega)
      unfold jI
      rw [E20, nn 0 (by decide), nn 1 (by decide), τ1]
      refine ⟨⟨⟨0, by decide, (Tv 1 (by decide) (by decide)).trans a1, b2⟩, by rw [Tv 3 (by decide) (by decide), a3, b18], fun j hj => ?_⟩, ?_, ?_, ⟨w, w1, (T0 11 (by decide) (by decide) (by decide) (by decide)).trans w2, ?_⟩, fun k hk => ?_, ?_, ?_, ?_, ?_⟩
      · rw [To 1 (by decide), bs 71 (by decide) (by decide)]
        exact t4 j hj
      · unfold jIs jIx
        rw [b72, bs 75 (by decide) (by decide), bs 76 (by decide) (by decide)]
        refine ⟨r1, jvW0_W hwu, by rw [z31]; omega, fun j => u.2.1 j, fun j hj => ⟨?_, (hw.2.2.2.2.2.2.2.1 j hj).1⟩, fun j hj hu => ?_, fun z => ?_⟩
        · rw [n1 j hj]
          exact c2 j hj
        · refine b78 j hj ?_
          unfold jwU at hu ⊢
          rw [jz_c (jvW0_a (by decide)), jz_c (jvW0_a (by decide)), jz_c (jvW0_a (by decide))] at hu
          exact hu
        · rw [jz_c (jvW0_a (by decide))]
          unfold jwUn
          by_cases y : jz u.1 2 = 0
          · rw [jaIf1_t y, jz, jaPt_ne (by decide), jaPt_eq, jaIx_nI (by omega)]
          · exact absurd z (N1 y)
      · refine ⟨0, 0, by omega, by omega, ?_, ?_, b33, ⟨fun j j' _ h => absurd h (by omega), fun j h => absurd h (by omega)⟩, fun j h => absurd h (by omega)⟩
        · rw [τ0, jaUI_at, jaPt_ne (by decide), jaUI_at, jaPt_eq]
        · rw [τ0, jaUI_at, jaPt_eq]
      · rw [nn _ (by omega), τ2, b72]
        exact Or.inl ⟨⟨V0, V2⟩, jvW0_0 (by omega)⟩
      · rw [To 15 (by decide), bs 95 (by decide) (by decide), nn _ (by omega), nn _ (by omega), τn (11 + k) (by omega) (by omega) (by omega) (by omega), τn (16 + k) (by omega) (by omega) (by omega) (by omega)]
        unfold jIi1
        rw [bs 91 (by decide) (by decide), bs 92 (by decide) (by decide), bs 93 (by decide) (by decide), bl 94 (by decide) (by decide)]
        exact h5 k hk
      · unfold jIb
        rw [T0 17 (by decide) (by decide) (by decide) (by decide), To 10 (by decide), f.f 43 (by decide), bs 88 (by decide) (by decide)]
        exact h6
      · unfold jIf
        rw [To 16 (by decide), To 17 (by decide), f.f 37 (by decide), f.f 38 (by decide), f.f 39 (by decide), bs 86 (by decide) (by decide)]
        exact h7
      · unfold jmV
        rw [bl 79 (by decide) (by decide)]
        exact h8.1
      · rw [nn 13 (by decide), τ13]
        exact c1.2.2.2
    · rw [hu] at hc
      cases hc
  · obtain ⟨f1, f2⟩ := fr
    rw [jaU_eq] at f2
    refine ⟨fun z => absurd z (by decide), fun _ => ?_⟩
    refine sp_A_faultBelow (by omega) fl ?_
    generalize hτ : jaU τ' 0 (jaUI (τ' 0) 0 0 3 (nI c)) = τ
    have τ0 : τ 0 = jaUI (τ' 0) 0 0 3 (nI c) := by rw [← hτ, jaU_eq]
    have τ13 : τ 13 = τ' 13 := by rw [← hτ, jaU_ne (by decide)]
    have τn : ∀ q, q ≠ 0 → q ≠ 13 → τ q = σ q := fun q h1 h2 => by rw [← hτ, jaU_ne h1, f1 q h1 h2, jaU_ne h1]
    have T0 : ∀ j, j ≠ 1 → j ≠ 3 → (τ 0).1 0 0 j = (σ 0).1 0 0 j := fun j g1 g3 => by
      rw [τ0, jaUI_at, jaPt_ne g3, f2 0 (by omega), pf.2 j g1 g3]
    have To : ∀ o, o = 1 ∨ 5 ≤ o → (τ 0).1 o = (σ 0).1 o := fun o ho => by
      have hne : o ≠ 0 := by omega
      rw [τ0, ← pf.1 o ho, ← f2 o (by omega)]
      funext a
      simp (disch := first | omega | decide) only [jaU_eq, jaU_U, nI_add, pk_mul, jaIx_nI, vp_inT, true_and, and_true, ↓jaO0, ↓jaO1, nI_z, nI_z2, nI_z3, nI_z4, nI_z5, nI_lt', nI_le', nI_eq', jaUI_at, jaPt_eq, jaPt_ne, jaUI_o, jaUI_2, jaUL_at, jaUL_o, jaUL_1, jaB_z, jaB_1, ↓jaB_01, Classical.not_not, and_self, true_or, or_true, nI_11, Nat.reduceEqDiff, Nat.reduceAdd, Nat.reduceMul, Nat.add_zero, Nat.zero_add, Nat.mul_zero, not_true_eq_false, not_false_eq_true, false_implies, true_implies, hne]
    have hI1 := jI_13 (S' := τ' 13) hI hb
    have e20 : jaU σ 13 (τ' 13) 20 = σ 20 := jaU_ne (by decide)
    have e00 : jaU σ 13 (τ' 13) 0 = σ 0 := jaU_ne (by decide)
    refine jaAk (k := 20) (B := σ 20) (P := fun τ => jaDe 12 jy_M_world [jaMo] τ (jaKi fun b σ2 => (-1 : Int32) - nI (jtAt X p) = b ∧ jI σ2)) (τn 20 (by decide) (by decide)) ?_
    refine sp_M_world (X := X) (by omega) hn2 hl X2 hX h71 h8.1 rfl (fun u' n' hu' => ?_) (fun c' p' hc' B' fl' b2 b78 f => ?_)
    · rw [hc] at hu'
      cases hu'
    · rw [hc] at hc'
      have := Sum.inl.inj hc'
      obtain ⟨rfl, rfl⟩ := Prod.mk.inj this
      refine ⟨rfl, ?_⟩
      have bs : ∀ o, o ∉ [73, 78] → o ≠ 70 → B'.1 o = (σ 20).1 o := fun o h1 h2 => f.s o h1 h2
      have g78 : ∀ j, j < 16 → B'.2 78 0 j = (σ 20).2 78 0 j := b78
      refine jI_A78 hI1 (fun q q0 _ _ => ?_) ⟨⟨0, by decide, ?_, b2⟩, ?_, fun j hj => ?_⟩ ?_ ?_ (fun j hj => ?_) (by rw [e00, To 15 (by decide)]) (fun o ho => by rw [e20]; exact bs o (by revert ho; revert o; decide) (by rintro rfl; revert ho; decide)) (fun j hj => by rw [e20]; exact g78 j hj) (fun o ho => by rw [e20]; exact f.l o (by revert ho; revert o; decide) (by rintro rfl; revert ho; decide)) (by rw [e20]; exact f.f 33 (by decide))
      · by_cases q1 : q = 13
        · rw [q1, jaU_eq, τ13]
        · rw [jaU_ne q1, τn q q0 q1]
      · rw [τ0, jaUI_at, jaPt_ne (by decide), f2 0 (by omega)]
        exact a1
      · rw [τ0, jaUI_at, jaPt_eq]
        exact fl'.1.symm
      · rw [To 1 (by decide), bs 71 (by decide) (by decide)]
        exact t4 j hj
      · unfold jIb
        rw [T0 17 (by decide) (by decide), To 10 (by decide), f.f 43 (by decide), bs 88 (by decide) (by decide)]
        exact h6
      · unfold jIf
        rw [To 16 (by decide), To 17 (by decide), f.f 37 (by decide), f.f 38 (by decide), f.f 39 (by decide), bs 86 (by decide) (by decide)]
        exact h7
      · rw [e00]
        exact T0 j (fun e => by rw [e] at hj; revert hj; decide) (fun e => by rw [e] at hj; revert hj; decide)
end
