section
/-! the class: a WORLD read whole -/
def jwD (w : jwS) : Prop := (w.2.2.1 ≠ 1 → w.1 3 = nI 5) ∧ (w.2.2.2 ≠ 1 → w.1 4 = nI 2) ∧ (jz w.1 2 = 0 → w.1 28 = nI 0)
theorem jwLine_D {X : jtX} {w w' : jwS} {i i' : Nat} (hw : jwW w) (hd : jwD w) (hl : jwLine X w i = .inr (w', i')) : jwD w' := by
  obtain ⟨h, nm, e, l⟩ := w
  obtain ⟨⟨-, w0⟩, ⟨-, w1⟩, ⟨-, w2⟩, -⟩ := hw
  obtain ⟨d1, d2, d3⟩ := hd
  simp only [] at w0 w1 w2 d1 d2 d3
  have G : ∀ (h' : jvA) (nm' : Nat → Nat) (e' l' : Nat), (e' ≠ 1 → e ≠ 1 ∧ h' 3 = h 3) → (l' ≠ 1 → l ≠ 1 ∧ h' 4 = h 4) → (jz h' 2 = 0 → jz h 2 = 0 ∧ h' 28 = h 28) → jwD (h', nm', e', l') := fun h' nm' e' l' a b c => ⟨fun q => (a q).2.trans (d1 (a q).1), fun q => (b q).2.trans (d2 (b q).1), fun q => (c q).2.trans (d3 (c q).1)⟩
  unfold jwLine at hl
  by_cases q1 : jtK X i = 105
  · rw [jaIf1_t q1] at hl
    unfold jwEp at hl
    simp only [] at hl
    by_cases q2 : e = 1
    · rw [jaIf1_t q2] at hl; cases hl
    · rw [jaIf1_f q2] at hl
      obtain ⟨v, e1, e2⟩ := jwB_r hl
      cases e2
      refine G _ _ _ _ (fun q => absurd rfl q) (fun q => ⟨q, jaPt_ne (by decide)⟩) (fun q => ⟨?_, jaPt_ne (by decide)⟩)
      rwa [jz_c (jaPt_ne (by decide))] at q
  · rw [jaIf1_f q1] at hl
    by_cases q2 : jtK X i = 106
    · rw [jaIf1_t q2] at hl
      unfold jwLi at hl
      simp only [] at hl
      by_cases q2 : l = 1
      · rw [jaIf1_t q2] at hl; cases hl
      · rw [jaIf1_f q2] at hl
        obtain ⟨v, e1, e2⟩ := jwB_r hl
        cases e2
        refine G _ _ _ _ (fun q => ⟨q, jaPt_ne (by decide)⟩) (fun q => absurd rfl q) (fun q => ⟨?_, jaPt_ne (by decide)⟩)
        rwa [jz_c (jaPt_ne (by decide))] at q
    · rw [jaIf1_f q2] at hl
      by_cases q3 : jtK X i = 100
      · rw [jaIf1_t q3] at hl
        unfold jwSi at hl
        simp only [] at hl
        by_cases q4 : jz h 0 = 3
        · rw [jaIf1_t q4] at hl; cases hl
        · rw [jaIf1_f q4] at hl
          obtain ⟨nm', e1, e2⟩ := jwB_r hl
          cases e2
          refine G _ _ _ _ (fun q => ⟨q, jaPt_ne (by decide)⟩) (fun q => ⟨q, jaPt_ne (by decide)⟩) (fun q => ⟨?_, jaPt_ne (by decide)⟩)
          rwa [jz_c (jaPt_ne (by decide))] at q
      · rw [jaIf1_f q3] at hl
        by_cases q4 : jtK X i = 101
        · rw [jaIf1_t q4] at hl
          unfold jwKe at hl
          simp only [] at hl
          by_cases q5 : jz h 1 = 10
          · rw [jaIf1_t q5] at hl; cases hl
          · rw [jaIf1_f q5] at hl
            obtain ⟨nm', e1, e2⟩ := jwB_r hl
            obtain ⟨r, e3, e4⟩ := jwB_r e2
            obtain ⟨v, e5, e6⟩ := jwB_r e4
            cases e6
            have ne : ∀ j, j ≠ 1 → j ≠ 5 + jz h 1 → j ≠ 15 + jz h 1 → jaPt (jaPt (jaPt h (5 + jz h 1) (nI r)) (15 + jz h 1) (nI v)) 1 (nI (jz h 1 + 1)) j = h j := fun j x1 x2 x3 => by rw [jaPt_ne x1, jaPt_ne x3, jaPt_ne x2]
            refine G _ _ _ _ (fun q => ⟨q, ne 3 (by omega) (by omega) (by omega)⟩) (fun q => ⟨q, ne 4 (by omega) (by omega) (by omega)⟩) (fun q => ⟨?_, ne 28 (by omega) (by omega) (by omega)⟩)
            rwa [jz_c (ne 2 (by omega) (by omega) (by omega))] at q
        · rw [jaIf1_f q4] at hl
          by_cases q5 : jtK X i = 102
          · rw [jaIf1_t q5] at hl
            unfold jwCo at hl
            simp only [] at hl
            by_cases q6 : jz h 2 = 3
            · rw [jaIf1_t q6] at hl; cases hl
            · rw [jaIf1_f q6] at hl
              obtain ⟨nm', e1, e2⟩ := jwB_r hl
              obtain ⟨v, e3, e4⟩ := jwB_r e2
              by_cases q7 : jtK X (i + 3) = 104 ∨ jtK X (i + 3) = 103
              · rw [jaIf1_t q7] at e4
                cases e4
                have ne : ∀ b j, j ≠ 2 → j ≠ 25 + jz h 2 → j ≠ 28 + jz h 2 → jaPt (jaPt (jaPt h (25 + jz h 2) (nI v)) (28 + jz h 2) b) 2 (nI (jz h 2 + 1)) j = h j := fun b j x1 x2 x3 => by rw [jaPt_ne x1, jaPt_ne x3, jaPt_ne x2]
                refine G _ _ _ _ (fun q => ⟨q, ne _ 3 (by omega) (by omega) (by omega)⟩) (fun q => ⟨q, ne _ 4 (by omega) (by omega) (by omega)⟩) (fun q => ?_)
                rw [jz, jaPt_eq, jaIx_nI (by omega)] at q
                exact absurd q (by omega)
              · rw [jaIf1_f q7] at e4
                cases e4
          · rw [jaIf1_f q5] at hl
            cases hl
/-- what isn't told -/
noncomputable def jwUn (h : jvA) : jvA := jaIf1 (jz h 2 = 0) (jaPt (jaPt h 2 (nI 1)) 25 (nI 1)) h
theorem jwUn_W {w : jwS} (hw : jwW w) (hd : jwD w) : jWw (jwUn w.1) := by
  obtain ⟨w0, w1, w2, w3, w4, w5, w6, -⟩ := hw
  unfold jwUn
  by_cases q : jz w.1 2 = 0
  · rw [jaIf1_t q]
    have ne : ∀ j, j ≠ 2 → j ≠ 25 → jaPt (jaPt w.1 2 (nI 1)) 25 (nI 1) j = w.1 j := fun j a b => by rw [jaPt_ne b, jaPt_ne a]
    have e2 : jaPt (jaPt w.1 2 (nI 1)) 25 (nI 1) 2 = nI 1 := by rw [jaPt_ne (by decide), jaPt_eq]
    have e25 : jaPt (jaPt w.1 2 (nI 1)) 25 (nI 1) 25 = nI 1 := jaPt_eq
    generalize jaPt (jaPt w.1 2 (nI 1)) 25 (nI 1) = h' at *
    have z : ∀ j, j ≠ 2 → j ≠ 25 → jz h' j = jz w.1 j := fun j a b => jz_c (ne j a b)
    have z2 : jz h' 2 = 1 := by rw [jz, e2, jaIx_nI (by omega)]
    have z25 : jz h' 25 = 1 := by rw [jz, e25, jaIx_nI (by omega)]
    refine ⟨?_, ?_, ?_, ?_, ?_, fun k hk => ?_, fun c hc => ?_⟩
    · rw [ne 0 (by decide) (by decide), z 0 (by decide) (by decide)]; exact w0
    · rw [ne 1 (by decide) (by decide), z 1 (by decide) (by decide)]; exact w1
    · rw [e2, z2]; exact ⟨rfl, by omega, by omega⟩
    · rw [ne 3 (by decide) (by decide), z 3 (by decide) (by decide)]; exact w3
    · rw [ne 4 (by decide) (by decide), z 4 (by decide) (by decide)]; exact w4
    · rw [z 1 (by decide) (by decide)] at hk
      rw [ne _ (by omega) (by omega), z _ (by omega) (by omega), z 0 (by decide) (by decide)]; exact w5 k hk
    · rw [z2] at hc
      have hc0 : c = 0 := by omega
      subst hc0
      rw [Nat.add_zero, Nat.add_zero, e25, z25, ne 28 (by decide) (by decide)]
      exact ⟨rfl, by omega, by omega, Or.inl (hd.2.2 q)⟩
  · rw [jaIf1_f q]
    exact ⟨w0, w1, ⟨w2.1, by omega, w2.2⟩, w3, w4, w5, w6⟩
end
