section
/-! an act: what was is kept, what is goes on -/
theorem jSn_c {T : jaS} {s s' : jvA} (h : ∀ j, 525 ≤ j → s' j = s j) (hs : jSn T s) : jSn T s' := by
  unfold jSn at *
  rw [h 525 (by decide), show (fun j => s' (526 + j)) = fun j => s (526 + j) from funext fun j => h _ (by omega)]
  exact hs
theorem jvSt_in {s u : jvA} {m j i : Nat} (hm : m ≤ 8) (hi : i < 494) (hj : j < jvStM m) : jvSt s u m (494 * j + i) = if j + 1 = jvStM m then s (31 + i) else u (494 * (if m = 8 then j + 1 else j) + i) := by
  unfold jvSt jvStM at *
  by_cases e : m = 8
  · rw [jaIf1_t e] at hj
    rw [jaIf1_t e, jaIf1_t e, if_pos e]
    by_cases c : j + 1 = 8
    · rw [if_pos c, show 494 * j + i = 3458 + i by omega, jvCp_in hi]
    · rw [if_neg c, jvCp_out (Or.inl (by omega)), show 494 * j + i = 0 + (494 * j + i) by omega, jvCp_in (by omega), show 494 + (494 * j + i) = 494 * (j + 1) + i by omega]
  · rw [jaIf1_f e] at hj
    rw [jaIf1_f e, jaIf1_f e, if_neg e]
    by_cases c : j + 1 = m + 1
    · rw [if_pos c, show 494 * j + i = 494 * m + i by omega, jvCp_in hi]
    · rw [if_neg c, jvCp_out (Or.inl (by omega))]
theorem jvStM_le {m : Nat} (hm : m ≤ 8) : jvStM m ≤ 8 ∧ 1 ≤ jvStM m ∧ m ≤ jvStM m ∧ jvStM m = min (m + 1) 8 := by
  unfold jvStM jaIf1
  split <;> omega
set_option maxHeartbeats 1000000 in
theorem jI_act {σ τ : jaT} {B' : jaS} {m q : Nat} {x' : jvX} (h : jI σ) (hm : m ≤ 8) (hq : q < 8) (h9 : (σ 0).1 0 0 9 = nI m) (h8 : (σ 0).1 0 0 8 = nI q)
    (τn : ∀ k, k ≠ 0 → k ≠ 1 → k ≠ 2 → k ≠ 3 + q → k ≠ 20 → τ k = σ k) (ht : jIt (τ 0) B') (hb : jIb (τ 0) B') (hf : jIf (τ 0) B') (a11 : (τ 0).1 0 0 11 = (σ 0).1 0 0 11) (a15 : (τ 0).1 15 0 = (σ 0).1 15 0)
    (a9 : (τ 0).1 0 0 9 = nI (jvStM m)) (a8 : (τ 0).1 0 0 8 = nI ((q + 1) % 8))
    (rT : jR (τ (3 + q)) (jIx (σ 20))) (nT : ∀ i, i < 16 → (τ (3 + q)).2 35 0 i = (σ 1).2 35 0 i) (r1 : jR (τ 1) x') (n1 : ∀ i, i < 16 → (τ 1).2 35 0 i = (σ 1).2 35 0 i)
    (w' : jW3 x') (K : jK3 (jIx (σ 20)) x') (t' : jz x'.1 31 ≤ 1000) (b72 : B'.1 72 0 = x'.1) (b75 : B'.1 75 0 = x'.2.1) (b76 : B'.1 76 0 = x'.2.2) (b83 : B'.1 83 0 = jvSt ((σ 20).1 72 0) ((σ 20).1 83 0) m) (b33 : B'.1 70 0 33 = nI (jvStM m))
    (bs : ∀ o, o ∈ [91, 92, 93, 94, 95] → B'.1 o = (σ 20).1 o) (bl : ∀ o, o ∈ [78, 79, 94] → B'.2 o = (σ 20).2 o) : jI (jaU τ 20 B') := by
  obtain ⟨h1, h2, h3, h4, h5, h6, h7, h8'⟩ := h
  have n : ∀ k, k ≠ 20 → jaU τ 20 B' k = τ k := fun k hk => jaU_ne hk
  have e20 : jaU τ 20 B' 20 = B' := jaU_eq
  obtain ⟨hM1, hM2, hM3, hM4⟩ := jvStM_le hm
  obtain ⟨K1, K2, K3, K4, K5⟩ := K
  unfold jI
  rw [e20, n 0 (by decide), n 1 (by decide)]
  refine ⟨ht, ?_, ?_, ?_, ?_, hb, hf, ?_⟩
  · obtain ⟨-, -, -, nm, g1, g2, g3⟩ := h2
    unfold jIs jIx
    rw [b72, b75, b76, bl 78 (by decide)]
    refine ⟨r1, w', t', nm, fun j hj => ?_, fun j hj hu => g2 j hj ?_, fun z => ?_⟩
    · rw [n1 j hj]
      exact g1 j hj
    · unfold jwU at hu ⊢
      rw [jz_c (K1 0 (Or.inl (by decide))), jz_c (K1 1 (Or.inl (by decide))), jz_c (K1 2 (Or.inl (by decide)))] at hu
      exact hu
    · rw [jz_c (K1 2 (Or.inl (by decide)))]
      exact g3 z
  · obtain ⟨m', q', a, b, c, d, e, i, k⟩ := h3
    have em : m' = m := by
      rw [h9, nI_eq' (by omega) (by omega)] at c
      exact c.symm
    have eq : q' = q := by
      rw [h8, nI_eq' (by omega) (by omega)] at d
      exact d.symm
    subst em
    subst eq
    have old : ∀ jo, jo < m' → (3 + (q' + 8 - m' + jo) % 8 ≠ 3 + q' → ∀ jn, (∀ i, i < 494 → B'.1 83 0 (494 * jn + i) = (σ 20).1 83 0 (494 * jo + i)) → jIy (τ (3 + (q' + 8 - m' + jo) % 8)) (fun i => (τ 1).2 35 0 i) x'.1 x'.2.1 x'.2.2 (B'.1 83 0) jn) := by
      intro jo hjo hne jn hu
      rw [τn _ (by omega) (by omega) (by omega) hne (by omega)]
      obtain ⟨y, y1, y2, y3, y4, y5, y6⟩ := k jo hjo
      obtain ⟨z1, z2⟩ := i.2 jo hjo
      have e1 : jz ((σ 20).1 83 0) (494 * jo + 1) = jz y 32 := by
        unfold jz
        rw [y4 1 (by decide)]
      have e2 : jz ((σ 20).1 83 0) (494 * jo + 2) = jz y 33 := by
        unfold jz
        rw [y4 2 (by decide)]
      rw [e1] at z1
      rw [e2] at z2
      have g1 : ∀ j, j < 133 * jz y 32 → x'.2.1 j = (σ 20).1 75 0 j := fun j hj => K2 j (by show j < 133 * jz ((σ 20).1 72 0) 32; omega)
      have g2 : ∀ j, j < 9 * jz y 33 → x'.2.2 j = (σ 20).1 76 0 j := fun j hj => K3 j (by show j < 9 * jz ((σ 20).1 72 0) 33; omega)
      refine ⟨y, jR_g y1 y2 g1 g2, jW_g y2 g1 g2, y3, fun i hi => (hu i hi).trans (y4 i hi), fun i hi => (y5 i hi).trans (K1 i (Or.inl hi)).symm, fun i hi => ?_⟩
      show _ = (τ 1).2 35 0 i
      rw [n1 i hi]
      exact y6 i hi
    have new : ∀ jn, (∀ i, i < 494 → B'.1 83 0 (494 * jn + i) = (σ 20).1 72 0 (31 + i)) → jIy (τ (3 + q')) (fun i => (τ 1).2 35 0 i) x'.1 x'.2.1 x'.2.2 (B'.1 83 0) jn := by
      intro jn hu
      refine ⟨(σ 20).1 72 0, jR_g rT h2.2.1 K2 K3, jW_g h2.2.1 K2 K3, h2.2.2.1, hu, fun i hi => (K1 i (Or.inl hi)).symm, fun i hi => ?_⟩
      show _ = (τ 1).2 35 0 i
      rw [n1 i hi]
      exact nT i hi
    have row : ∀ jn, jn < jvStM m' → ∀ i, i < 494 → B'.1 83 0 (494 * jn + i) = if jn + 1 = jvStM m' then (σ 20).1 72 0 (31 + i) else (σ 20).1 83 0 (494 * (if m' = 8 then jn + 1 else jn) + i) := fun jn hjn i hi => by
      rw [b83]
      exact jvSt_in a hi hjn
    have rowz : ∀ jn, jn < jvStM m' → ∀ i, i < 494 → jz (B'.1 83 0) (494 * jn + i) = if jn + 1 = jvStM m' then jz ((σ 20).1 72 0) (31 + i) else jz ((σ 20).1 83 0) (494 * (if m' = 8 then jn + 1 else jn) + i) := fun jn hjn i hi => by
      unfold jz
      rw [row jn hjn i hi]
      split <;> rfl
    have hz1 : ∀ j, j < m' → jz ((σ 20).1 83 0) (494 * j + 1) ≤ jz ((σ 20).1 72 0) 32 ∧ jz ((σ 20).1 83 0) (494 * j + 2) ≤ jz ((σ 20).1 72 0) 33 := i.2
    have K4 : jz ((σ 20).1 72 0) 32 ≤ jz x'.1 32 := K4
    have K5 : jz ((σ 20).1 72 0) 33 ≤ jz x'.1 33 := K5
    refine ⟨jvStM m', (q' + 1) % 8, hM1, by omega, a9, a8, b33, ⟨fun j j' hjj hj' => ?_, fun j hj => ?_⟩, fun j hj => ?_⟩
    · rw [rowz j (by omega) 1 (by decide), rowz j (by omega) 2 (by decide), rowz j' hj' 1 (by decide), rowz j' hj' 2 (by decide)]
      by_cases c1 : j + 1 = jvStM m'
      · have : j' = j := by omega
        rw [this]
        exact ⟨Nat.le_refl _, Nat.le_refl _⟩
      · rw [if_neg c1, if_neg c1]
        by_cases c2 : j' + 1 = jvStM m'
        · rw [if_pos c2, if_pos c2]
          by_cases c3 : m' = 8
          · rw [if_pos c3]
            exact hz1 _ (by omega)
          · rw [if_neg c3]
            exact hz1 _ (by omega)
        · rw [if_neg c2, if_neg c2]
          by_cases c3 : m' = 8
          · rw [if_pos c3, if_pos c3]
            exact i.1 _ _ (by omega) (by omega)
          · rw [if_neg c3, if_neg c3]
            exact i.1 _ _ (by omega) (by omega)
    · rw [rowz j hj 1 (by decide), rowz j hj 2 (by decide), b72]
      by_cases c1 : j + 1 = jvStM m'
      · rw [if_pos c1, if_pos c1]
        exact ⟨K4, K5⟩
      · rw [if_neg c1, if_neg c1]
        by_cases c3 : m' = 8
        · rw [if_pos c3]
          have := hz1 (j + 1) (by omega)
          omega
        · rw [if_neg c3]
          have := hz1 j (by omega)
          omega
    · rw [n _ (by omega), b72, b75, b76]
      by_cases c1 : j + 1 = jvStM m'
      · rw [show 3 + ((q' + 1) % 8 + 8 - jvStM m' + j) % 8 = 3 + q' by omega]
        refine new j (fun i hi => ?_)
        rw [row j hj i hi, if_pos c1]
      · by_cases c3 : m' = 8
        · rw [show 3 + ((q' + 1) % 8 + 8 - jvStM m' + j) % 8 = 3 + (q' + 8 - m' + (j + 1)) % 8 by omega]
          refine old (j + 1) (by omega) (by omega) j (fun i hi => ?_)
          rw [row j hj i hi, if_neg c1, if_pos c3]
        · rw [show 3 + ((q' + 1) % 8 + 8 - jvStM m' + j) % 8 = 3 + (q' + 8 - m' + j) % 8 by omega]
          refine old j (by omega) (by omega) j (fun i hi => ?_)
          rw [row j hj i hi, if_neg c1, if_neg c3]
  · obtain ⟨w, a, b, c⟩ := h4
    refine ⟨w, a, a11.trans b, ?_⟩
    rw [n _ (by omega), τn _ (by omega) (by omega) (by omega) (by omega) (by omega), b72]
    exact jSn_c (fun j hj => K1 j (Or.inr hj)) c
  · intro k hk
    rw [bs 95 (by decide), n _ (by omega), n _ (by omega), a15, τn (11 + k) (by omega) (by omega) (by omega) (by omega) (by omega), τn (16 + k) (by omega) (by omega) (by omega) (by omega) (by omega)]
    unfold jIi1
    rw [bs 91 (by decide), bs 92 (by decide), bs 93 (by decide), bl 94 (by decide)]
    exact h5 k hk
  · unfold jIm jmV
    rw [bl 79 (by decide), n 13 (by decide), τn 13 (by decide) (by decide) (by decide) (by omega) (by decide)]
    exact h8'
end
