section
/-! what is read is well made -/
def jgX (seg : List jbY) : Prop := ∀ rest n, jgP rest (n + 1) → jgP (seg ++ rest) n
def jgFx (f : jgU → Nat → Sum jwF (jgU × Nat)) : Prop := ∀ u i u' i', f u i = .inr (u', i') → ∃ seg, u'.1 = u.1 ++ seg ∧ jgX seg ∧ ∀ c, c ∈ seg → jgOk c
theorem jgX_2 {a b : List jbY} {w : Nat} (hw : w = 21 ∨ w = 22) (ha : jgX a) (hb : jgX b) : jgX (a ++ b ++ [(w, 0, 0)]) := by
  intro rest n h
  rw [List.append_assoc, List.append_assoc]
  refine ha _ n (hb _ (n + 1) ?_)
  exact Or.inr (Or.inl ⟨hw, by omega, by rw [show n + 1 + 1 - 1 = n + 1 by omega]; exact h⟩)
theorem jgOk_w {w : Nat} (h : 20 ≤ w) (h2 : w ≤ 22) : jgOk (w, 0, 0) := ⟨Or.inr ⟨h, h2⟩, by show 0 < 1000; decide, fun z => absurd z (by show ¬ (w = 7 ∨ w = 8); omega), fun z1 z2 => absurd z2 (by show ¬ w ≤ 12; omega)⟩
theorem jgLoop_x {X : jtX} {f : jgU → Nat → Sum jwF (jgU × Nat)} {tok w : Nat} (hw : w = 21 ∨ w = 22) (hf : jgFx f) : ∀ n u i u' i' l0 a, jgLoop X f tok w n u i = .inr (u', i') → u.1 = l0 ++ a → jgX a → (∀ c, c ∈ a → jgOk c) → ∃ seg, u'.1 = l0 ++ seg ∧ jgX seg ∧ ∀ c, c ∈ seg → jgOk c
  | 0, u, i, u', i', _, _, h, _, _, _ => by cases h
  | n + 1, u, i, u', i', l0, a, h, hu, ha, hc => by
    rw [jgLoop] at h
    by_cases q : jtK X i = tok
    · rw [jaIf1_t q] at h
      obtain ⟨⟨u1, i1⟩, e1, e2⟩ := jwB_r h
      obtain ⟨b, b1, b2, b3⟩ := hf _ _ _ _ e1
      have b1 : u1.1 = u.1 ++ b := b1
      refine jgLoop_x hw hf n _ _ _ _ l0 (a ++ b ++ [(w, 0, 0)]) e2 ?_ (jgX_2 hw ha b2) (fun c hcm => ?_)
      · show u1.1 ++ [(w, 0, 0)] = _
        rw [b1, hu, List.append_assoc, List.append_assoc, List.append_assoc]
      · rcases List.mem_append.mp hcm with z | z
        · rcases List.mem_append.mp z with z | z
          · exact hc c z
          · exact b3 c z
        · rw [List.mem_singleton.mp z]
          exact jgOk_w (by omega) (by omega)
    · rw [jaIf1_f q] at h
      cases h
      exact ⟨a, hu, ha, hc⟩
theorem jgAnd_x {X : jtX} {f : jgU → Nat → Sum jwF (jgU × Nat)} (hf : jgFx f) : jgFx (jgAnd X f) := by
  intro u i u' i' h
  unfold jgAnd at h
  obtain ⟨⟨u1, i1⟩, e1, e2⟩ := jwB_r h
  obtain ⟨b, b1, b2, b3⟩ := hf _ _ _ _ e1
  exact jgLoop_x (Or.inl rfl) hf 20 _ _ _ _ u.1 b e2 b1 b2 b3
theorem jgOr_x {X : jtX} {f : jgU → Nat → Sum jwF (jgU × Nat)} (hf : jgFx f) : jgFx (jgOr X f) := by
  intro u i u' i' h
  unfold jgOr at h
  obtain ⟨⟨u1, i1⟩, e1, e2⟩ := jwB_r h
  obtain ⟨b, b1, b2, b3⟩ := jgAnd_x hf _ _ _ _ e1
  exact jgLoop_x (Or.inr rfl) (jgAnd_x hf) 20 _ _ _ _ u.1 b e2 b1 b2 b3
theorem jgLeaf_o {X : jtX} (hX : ∀ q, X.1 q < 256) {nm : Nat → Nat} {n0 nK i i' : Nat} {y : jbY} (h03 : n0 ≤ 3) (hK10 : nK ≤ 10) (h1 : 116 ≤ jtK X i) (h2 : jtK X i ≤ 128) (h : jgLeaf X nm n0 nK i = .inr (y, i')) : jgOk y ∧ y.1 ≤ 12 := by
  unfold jgLeaf at h
  by_cases q1 : jtK X i < 123
  · rw [jaIf1_t q1] at h
    cases h
    refine ⟨⟨Or.inl (show jtK X i - 116 ≤ 12 by omega), by show 0 < 1000; decide, fun z => ?_, fun z => ?_⟩, show jtK X i - 116 ≤ 12 by omega⟩
    · have z : jtK X i - 116 = 7 ∨ jtK X i - 116 = 8 := z
      omega
    · have z : 10 ≤ jtK X i - 116 := z
      omega
  · rw [jaIf1_f q1] at h
    by_cases q2 : jtK X i < 125
    · rw [jaIf1_t q2] at h
      obtain ⟨r, e1, e2⟩ := jwB_r h
      cases e2
      have lt := (jwNam_r e1).2.1
      refine ⟨⟨Or.inl (show jtK X i - 116 ≤ 12 by omega), show r < 1000 by omega, fun z => show r < 32 by omega, fun z => ?_⟩, show jtK X i - 116 ≤ 12 by omega⟩
      have z : 10 ≤ jtK X i - 116 := z
      omega
    · rw [jaIf1_f q2] at h
      by_cases q3 : jtK X i = 125
      · rw [jaIf1_t q3] at h
        obtain ⟨r, e1, e2⟩ := jwB_r h
        cases e2
        have lt := (jwNam_r e1).2.1
        refine ⟨⟨Or.inl (by show 9 ≤ 12; decide), show r < 1000 by omega, fun z => show r < 32 by omega, fun z => absurd z (by show ¬ 10 ≤ 9; decide)⟩, by show 9 ≤ 12; decide⟩
      · rw [jaIf1_f q3] at h
        by_cases q4 : 60 ≤ jtK X (i + 1) ∧ jtK X (i + 1) ≤ 62
        · rw [jaIf1_t q4] at h
          by_cases q5 : jtK X (i + 2) = 2
          · rw [jaIf1_t q5] at h
            cases h
            refine ⟨⟨Or.inl (show jtK X i - 116 ≤ 12 by omega), jtV_lt hX q5, fun z => ?_, fun _ _ => q4⟩, show jtK X i - 116 ≤ 12 by omega⟩
            have z : jtK X i - 116 = 7 ∨ jtK X i - 116 = 8 := z
            omega
          · rw [jaIf1_f q5] at h; cases h
        · rw [jaIf1_f q4] at h; cases h
theorem jgOne_x {X : jtX} (hX : ∀ q, X.1 q < 256) {nm : Nat → Nat} {n0 nK : Nat} (h03 : n0 ≤ 3) (hK10 : nK ≤ 10) : ∀ e, jgFx (jgOne X nm n0 nK e)
  | 0, u, i, u', i', h => by
    rw [jgOne] at h
    by_cases q : jtK X i = 40 ∨ (115 ≤ jtK X i ∧ jtK X i ≤ 128)
    · rw [jaIf1_t q] at h; cases h
    · rw [jaIf1_f q] at h; cases h
  | e + 1, u, i, u', i', h => by
    rw [jgOne] at h
    by_cases q : jtK X i = 40 ∨ (115 ≤ jtK X i ∧ jtK X i ≤ 128)
    · rw [jaIf1_t q] at h
      by_cases q2 : u.2 = 20
      · rw [jaIf1_t q2] at h; cases h
      · rw [jaIf1_f q2] at h
        by_cases q3 : jtK X i = 40
        · rw [jaIf1_t q3] at h
          obtain ⟨⟨u1, i1⟩, e1, e2⟩ := jwB_r h
          have a := jgOr_x (jgOne_x hX h03 hK10 e) _ _ _ _ e1
          by_cases q4 : jtK X i1 = 41
          · rw [jaIf1_t q4] at e2
            cases e2
            exact a
          · rw [jaIf1_f q4] at e2; cases e2
        · rw [jaIf1_f q3] at h
          by_cases q4 : jtK X i = 115
          · rw [jaIf1_t q4] at h
            obtain ⟨⟨u1, i1⟩, e1, e2⟩ := jwB_r h
            obtain ⟨b, b1, b2, b3⟩ := jgOne_x hX h03 hK10 e _ _ _ _ e1
            have b1 : u1.1 = u.1 ++ b := b1
            cases e2
            refine ⟨b ++ [(20, 0, 0)], ?_, fun rest n hn => ?_, fun c hc => ?_⟩
            · show u1.1 ++ [(20, 0, 0)] = _
              rw [b1, List.append_assoc]
            · rw [List.append_assoc]
              exact b2 _ n (Or.inl ⟨rfl, by omega, hn⟩)
            · rcases List.mem_append.mp hc with z | z
              · exact b3 c z
              · rw [List.mem_singleton.mp z]
                exact jgOk_w (by omega) (by omega)
          · rw [jaIf1_f q4] at h
            obtain ⟨⟨y1, i1⟩, e1, e2⟩ := jwB_r h
            have ho := jgLeaf_o hX h03 hK10 (by omega) (by omega) e1
            cases e2
            refine ⟨[y1], rfl, fun rest n hn => Or.inr (Or.inr ⟨ho.2, hn⟩), fun c hc => ?_⟩
            rw [List.mem_singleton.mp hc]
            exact ho.1
    · rw [jaIf1_f q] at h; cases h
theorem jgAll_x {X : jtX} (hX : ∀ q, X.1 q < 256) {nm : Nat → Nat} {n0 nK : Nat} (h03 : n0 ≤ 3) (hK10 : nK ≤ 10) {u : jgU} (h : jgAll X nm n0 nK = .inr u) : jgP u.1 0 ∧ ∀ c, c ∈ u.1 → jgOk c := by
  unfold jgAll at h
  obtain ⟨⟨u1, i1⟩, e1, e2⟩ := jwB_r h
  obtain ⟨b, b1, b2, b3⟩ := jgOr_x (jgOne_x hX h03 hK10 8) _ _ _ _ e1
  by_cases q : jtK X i1 = 1
  · rw [jaIf1_t q] at e2
    cases e2
    have b1 : u1.1 = [] ++ b := b1
    rw [List.nil_append] at b1
    show jgP u1.1 0 ∧ ∀ c, c ∈ u1.1 → jgOk c
    rw [b1]
    have := b2 [] 0 rfl
    rw [List.append_nil] at this
    exact ⟨this, b3⟩
  · rw [jaIf1_f q] at e2; cases e2
end
