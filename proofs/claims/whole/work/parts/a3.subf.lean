section
/-! submit -/
theorem jR_f {S T : jaS} {s d e : jvA} {x : Int32} (hR : jR S (s, d, e)) (hW : jW s d e) (f : jsF (jz s 32) (jaUI S 55 0 (jz s 32) x) T) : jR T (s, d, e) := by
  have hso : ∀ o, ¬ (55 ≤ o ∧ o < 60) → T.1 o = S.1 o := fun o b2 => by
    rw [f.1 o (by omega), jaUI_o (by omega)]
  have told : ∀ o, 56 ≤ o → o < 60 → (jaUI S 55 0 (jz s 32) x).1 o = S.1 o := fun o h1 _ => jaUI_o (by omega)
  have t55 : T.1 55 0 = jaPt (S.1 55 0) (jz s 32) x := by rw [f.1 55 (by decide), jaUI_at]
  refine ⟨jRw_S (fun o h1 h2 => hso o (by omega)) hR.w, ⟨by rw [hso 54 (by decide)]; exact hR.s.1, fun m hm => ?_⟩, jRe_S (fun o h1 h2 => hso o (by omega)) hR.e, jRo_S (fun o ho => hso o (by omega)) hR.o, jRc_S (fun o h1 h2 => hso o (by omega)) hR.c, jRk_S (fun o h1 h2 => hso o (by omega)) hR.k, ?_, jRp_S (hso 66 (by decide)) hR.p⟩
  · have e1 : m ≠ jz s 32 := Nat.ne_of_lt hm
    have hm2 : m < jz s 32 := hm
    have hr := hR.s.2 m hm
    refine jRt_m (n := m) (hW.d m hm2) ?_ ?_ ?_ (fun j hj => ?_) (fun j hj => ?_) (fun j h1 h2 => rfl) hr
    · rw [t55, jaPt_ne e1]
      exact hr.1
    · rw [f.2.2.1 56 m (by decide) (by decide) e1, told 56 (by decide) (by decide)]
    · rw [f.2.2.1 57 m (by decide) (by decide) e1, told 57 (by decide) (by decide)]
    · rw [f.2.2.2.1 _ (by omega), told 58 (by decide) (by decide)]
    · rw [f.2.2.2.2 _ (by omega), told 59 (by decide) (by decide)]
  · rw [hso 40 (by decide)]
    exact hR.t
theorem jI_S1 {σ : jaT} {S' : jaS} (h : jI σ) (hR : jR S' (jIx (σ 20))) (hl : S'.2 = (σ 1).2) : jI (jaU σ 1 S') := by
  obtain ⟨h1, h2, h3, h4, h5, h6, h7, h8⟩ := h
  have n : ∀ q, q ≠ 1 → jaU σ 1 S' q = σ q := fun q hq => jaU_ne hq
  have e1 : jaU σ 1 S' 1 = S' := jaU_eq
  unfold jI
  rw [e1, n 0 (by decide), n 20 (by decide)]
  refine ⟨h1, ⟨hR, h2.2.1, h2.2.2.1, ?_⟩, ?_, ?_, ?_, h6, h7, ?_⟩
  · unfold jIn
    rw [hl]
    exact h2.2.2.2
  · obtain ⟨m, q, a, b, c, d, e, i, k⟩ := h3
    refine ⟨m, q, a, b, c, d, e, i, fun j hj => ?_⟩
    rw [n _ (by omega), e1, hl]
    exact k j hj
  · obtain ⟨w, a, b, c⟩ := h4
    exact ⟨w, a, b, by rw [n _ (by omega)]; exact c⟩
  · intro k hk
    rw [n _ (by omega), n _ (by omega)]
    exact h5 k hk
  · unfold jIm
    rw [n 13 (by decide)]
    exact h8
end
