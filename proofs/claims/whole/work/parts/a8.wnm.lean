section
/-! a WORLD read: its first COPY's NAME isn't 0 -/
def jwN (w : jwS) : Prop := jz w.1 2 ≠ 0 → w.2.1 13 ≠ 0
theorem jwLine_N {X : jtX} {w w' : jwS} {i i' : Nat} (hw : jwW w) (hn : jwN w) (hl : jwLine X w i = .inr (w', i')) : jwN w' := by
  obtain ⟨h, nm, e, l⟩ := w
  obtain ⟨⟨-, w0⟩, ⟨-, w1⟩, ⟨-, w2⟩, -⟩ := hw
  simp only [] at w0 w1 w2
  have G : ∀ (h' : jvA) (nm' : Nat → Nat) (e' l' : Nat), (jz h' 2 ≠ 0 → (jz h 2 ≠ 0 ∧ nm' 13 = nm 13) ∨ nm' 13 ≠ 0) → jwN (h', nm', e', l') := fun h' nm' e' l' a q => by
    rcases a q with ⟨b, c⟩ | b
    · show nm' 13 ≠ 0
      rw [c]
      exact hn b
    · exact b
  have N : ∀ {nm' : Nat → Nat} {slot p : Nat}, jwNew X h nm slot p = .inr nm' → nm' = jnPt nm slot (jtW X p) ∧ 1 ≤ jtW X p := fun e => by
    obtain ⟨a, b, c⟩ := jwNew_r e
    exact ⟨b, jtW_pos (jtTc_w.mpr (Or.inl a))⟩
  have P : ∀ {slot x : Nat}, slot ≠ 13 → jnPt nm slot x 13 = nm 13 := fun q => if_neg (Ne.symm q)
  have P2 : ∀ {slot x : Nat}, slot = 13 → jnPt nm slot x 13 = x := fun q => if_pos q.symm
  unfold jwLine at hl
  by_cases q1 : jtK X i = 105
  · rw [jaIf1_t q1] at hl
    unfold jwEp at hl
    simp only [] at hl
    by_cases q2 : e = 1
    · rw [jaIf1_t q2] at hl; cases hl
    · rw [jaIf1_f q2] at hl
      obtain ⟨v, e1, e2⟩ := jwB_r hl
      cases e2
      refine G _ _ _ _ (fun q => Or.inl ⟨?_, rfl⟩)
      rwa [jz_c (jaPt_ne (by decide))] at q
  · rw [jaIf1_f q1] at hl
    by_cases q2 : jtK X i = 106
    · rw [jaIf1_t q2] at hl
      unfold jwLi at hl
      simp only [] at hl
      by_cases q2 : l = 1
      · rw [jaIf1_t q2] at hl; cases hl
      · rw [jaIf1_f q2] at hl
        obtain ⟨v, e1, e2⟩ := jwB_r hl
        cases e2
        refine G _ _ _ _ (fun q => Or.inl ⟨?_, rfl⟩)
        rwa [jz_c (jaPt_ne (by decide))] at q
    · rw [jaIf1_f q2] at hl
      by_cases q3 : jtK X i = 100
      · rw [jaIf1_t q3] at hl
        unfold jwSi at hl
        simp only [] at hl
        by_cases q4 : jz h 0 = 3
        · rw [jaIf1_t q4] at hl; cases hl
        · rw [jaIf1_f q4] at hl
          obtain ⟨nm', e1, e2⟩ := jwB_r hl
          cases e2
          obtain ⟨rfl, m2⟩ := N e1
          refine G _ _ _ _ (fun q => Or.inl ⟨?_, P (by omega)⟩)
          rwa [jz_c (jaPt_ne (by decide))] at q
      · rw [jaIf1_f q3] at hl
        by_cases q4 : jtK X i = 101
        · rw [jaIf1_t q4] at hl
          unfold jwKe at hl
          simp only [] at hl
          by_cases q5 : jz h 1 = 10
          · rw [jaIf1_t q5] at hl; cases hl
          · rw [jaIf1_f q5] at hl
            obtain ⟨nm', e1, e2⟩ := jwB_r hl
            obtain ⟨rfl, m2⟩ := N e1
            obtain ⟨r, e3, e4⟩ := jwB_r e2
            obtain ⟨v, e5, e6⟩ := jwB_r e4
            cases e6
            refine G _ _ _ _ (fun q => Or.inl ⟨?_, P (by omega)⟩)
            have ne : jaPt (jaPt (jaPt h (5 + jz h 1) (nI r)) (15 + jz h 1) (nI v)) 1 (nI (jz h 1 + 1)) 2 = h 2 := by rw [jaPt_ne (by omega), jaPt_ne (by omega), jaPt_ne (by omega)]
            rwa [jz_c ne] at q
        · rw [jaIf1_f q4] at hl
          by_cases q5 : jtK X i = 102
          · rw [jaIf1_t q5] at hl
            unfold jwCo at hl
            simp only [] at hl
            by_cases q6 : jz h 2 = 3
            · rw [jaIf1_t q6] at hl; cases hl
            · rw [jaIf1_f q6] at hl
              obtain ⟨nm', e1, e2⟩ := jwB_r hl
              obtain ⟨rfl, m2⟩ := N e1
              obtain ⟨v, e3, e4⟩ := jwB_r e2
              by_cases q7 : jtK X (i + 3) = 104 ∨ jtK X (i + 3) = 103
              · rw [jaIf1_t q7] at e4
                cases e4
                refine G _ _ _ _ (fun q => ?_)
                by_cases y : jz h 2 = 0
                · exact Or.inr (by rw [P2 (by omega)]; omega)
                · exact Or.inl ⟨y, P (by omega)⟩
              · rw [jaIf1_f q7] at e4
                cases e4
          · rw [jaIf1_f q5] at hl
            cases hl
theorem jwAll_N {X : jtX} (hX : ∀ q, X.1 q < 256) : ∀ (m : Nat) (w : jwS) (n i : Nat) (w' : jwS) (n' : Nat), jwW w → jwN w → jwAll X m w n i = .inr (w', n') → jwN w' ∧ n' ≤ n + m := by
  intro m
  induction m with
  | zero =>
    intro w n i w' n' hw hn h
    rw [jwAll] at h
    cases h
    exact ⟨hn, by omega⟩
  | succ m ih =>
    intro w n i w' n' hw hn h
    rw [jwAll] at h
    by_cases q : jtK X i = 1
    · rw [jaIf1_t q] at h
      cases h
      exact ⟨hn, by omega⟩
    · rw [jaIf1_f q] at h
      obtain ⟨⟨w1, i1⟩, e1, e2⟩ := jwB_r h
      by_cases q2 : jtK X i1 = 59
      · have e2 : jaIf1 (jtK X i1 = 59) (jwAll X m w1 (n + 1) (i1 + 1)) (.inl (1, i1)) = .inr (w', n') := e2
        rw [jaIf1_t q2] at e2
        obtain ⟨a, b⟩ := ih w1 (n + 1) (i1 + 1) w' n' (jwLine_W hX hw e1).1 (jwLine_N hw hn e1) e2
        exact ⟨a, by omega⟩
      · have e2 : jaIf1 (jtK X i1 = 59) (jwAll X m w1 (n + 1) (i1 + 1)) (.inl (1, i1)) = .inr (w', n') := e2
        rw [jaIf1_f q2] at e2
        cases e2
theorem jwNo_N : jwN jwNo := fun q => absurd (show jz jwNo.1 2 = 0 by rw [jz, show jwNo.1 2 = nI 0 from (jaIf1_f (by decide)).trans (jaIf1_f (by decide)), jaIx_nI (by omega)]) q
theorem jI_13 {σ : jaT} {S' : jaS} (h : jI σ) (hb : ∀ c, c < 3 → S'.1 34 0 c = 0 ∨ S'.1 34 0 c = 1) : jI (jaU σ 13 S') := by
  obtain ⟨h1, h2, h3, h4, h5, h6, h7, h8⟩ := h
  have n : ∀ q, q ≠ 13 → jaU σ 13 S' q = σ q := fun q hq => jaU_ne hq
  unfold jI
  rw [n 0 (by decide), n 20 (by decide), n 1 (by decide)]
  refine ⟨h1, h2, ?_, ?_, ?_, h6, h7, ?_⟩
  · obtain ⟨m, q, a, b, c, d, e, i, k⟩ := h3
    refine ⟨m, q, a, b, c, d, e, i, fun j hj => ?_⟩
    rw [n _ (by omega), n 1 (by decide)]
    exact k j hj
  · obtain ⟨w, a, b, c⟩ := h4
    exact ⟨w, a, b, by rw [n _ (by omega)]; exact c⟩
  · intro k hk
    rw [n _ (by omega), n _ (by omega)]
    exact h5 k hk
  · exact ⟨h8.1, by rw [jaU_eq]; exact hb⟩
theorem jI_A78 {σ τ : jaT} {B' : jaS} (h : jI σ) (τn : ∀ k, k ≠ 0 → k ≠ 2 → k ≠ 20 → τ k = σ k) (ht : jIt (τ 0) B') (hb : jIb (τ 0) B') (hf : jIf (τ 0) B') (a0 : ∀ j, j ∈ [8, 9, 11] → (τ 0).1 0 0 j = (σ 0).1 0 0 j) (a15 : (τ 0).1 15 0 = (σ 0).1 15 0)
    (bs : ∀ o, o ∈ [72, 75, 76, 83, 91, 92, 93, 95] → B'.1 o = (σ 20).1 o) (b78 : ∀ j, j < 16 → B'.2 78 0 j = (σ 20).2 78 0 j) (bl : ∀ o, o ∈ [79, 94] → B'.2 o = (σ 20).2 o) (b33 : B'.1 70 0 33 = (σ 20).1 70 0 33) : jI (jaU τ 20 B') := by
  obtain ⟨h1, h2, h3, h4, h5, h6, h7, h8⟩ := h
  have n : ∀ k, k ≠ 20 → jaU τ 20 B' k = τ k := fun k hk => jaU_ne hk
  have e20 : jaU τ 20 B' 20 = B' := jaU_eq
  unfold jI
  rw [e20, n 0 (by decide), n 1 (by decide)]
  refine ⟨ht, ?_, ?_, ?_, ?_, hb, hf, ?_⟩
  · obtain ⟨g1, g2, g3, nm, m1, m2, m3⟩ := h2
    unfold jIs jIx
    rw [bs 72 (by decide), bs 75 (by decide), bs 76 (by decide), τn 1 (by decide) (by decide) (by decide)]
    exact ⟨g1, g2, g3, nm, m1, fun j hj hu => (b78 j hj).trans (m2 j hj hu), m3⟩
  · obtain ⟨m, q, a, b, c, d, e, i, k⟩ := h3
    refine ⟨m, q, a, b, (a0 9 (by decide)).trans c, (a0 8 (by decide)).trans d, b33.trans e, by rw [bs 72 (by decide), bs 83 (by decide)]; exact i, fun j hj => ?_⟩
    rw [n _ (by omega), n 1 (by decide), τn _ (by omega) (by omega) (by omega), τn 1 (by decide) (by decide) (by decide), bs 72 (by decide), bs 75 (by decide), bs 76 (by decide), bs 83 (by decide)]
    exact k j hj
  · obtain ⟨w, a, b, c⟩ := h4
    exact ⟨w, a, (a0 11 (by decide)).trans b, by rw [n _ (by omega), τn _ (by omega) (by omega) (by omega), bs 72 (by decide)]; exact c⟩
  · intro k hk
    rw [a15, bs 95 (by decide), n _ (by omega), n _ (by omega), τn (11 + k) (by omega) (by omega) (by omega), τn (16 + k) (by omega) (by omega) (by omega)]
    unfold jIi1
    rw [bs 91 (by decide), bs 92 (by decide), bs 93 (by decide), bl 94 (by decide)]
    exact h5 k hk
  · unfold jIm jmV
    rw [bl 79 (by decide), n 13 (by decide), τn 13 (by decide) (by decide) (by decide)]
    exact h8
end
