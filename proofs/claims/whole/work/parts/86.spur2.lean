section
/-! a SENTENCE, read: pure -/
abbrev jgU : Type := List jbY × Nat
noncomputable def jgLeaf (X : jtX) (nm : Nat → Nat) (n0 nK i : Nat) : Sum jwF (jbY × Nat) :=
  jaIf1 (jtK X i < 123) (.inr ((jtK X i - 116, 0, 0), i + 1)) (jaIf1 (jtK X i < 125) (jwB (jwNam X nm 3 nK (i + 1)) fun r => .inr ((jtK X i - 116, 0, r), i + 2)) (jaIf1 (jtK X i = 125) (jwB (jwNam X nm 0 n0 (i + 1)) fun r => .inr ((9, 0, r), i + 2))
    (jaIf1 (60 ≤ jtK X (i + 1) ∧ jtK X (i + 1) ≤ 62) (jaIf1 (jtK X (i + 2) = 2) (.inr ((jtK X i - 116, jtK X (i + 1), jtV X (i + 2)), i + 3)) (.inl (1, i + 2))) (.inl (1, i + 1)))))
noncomputable def jgLoop (X : jtX) (f : jgU → Nat → Sum jwF (jgU × Nat)) (tok w : Nat) : Nat → jgU → Nat → Sum jwF (jgU × Nat)
  | 0, _, _ => .inl (0, 0)
  | n + 1, u, i => jaIf1 (jtK X i = tok) (jwB (f u (i + 1)) fun y => jgLoop X f tok w n (y.1.1 ++ [(w, 0, 0)], y.1.2) y.2) (.inr (u, i))
noncomputable def jgAnd (X : jtX) (f : jgU → Nat → Sum jwF (jgU × Nat)) (u : jgU) (i : Nat) : Sum jwF (jgU × Nat) := jwB (f u i) fun y => jgLoop X f 114 21 20 y.1 y.2
noncomputable def jgOr (X : jtX) (f : jgU → Nat → Sum jwF (jgU × Nat)) (u : jgU) (i : Nat) : Sum jwF (jgU × Nat) := jwB (jgAnd X f u i) fun y => jgLoop X (jgAnd X f) 113 22 20 y.1 y.2
noncomputable def jgOne (X : jtX) (nm : Nat → Nat) (n0 nK : Nat) : Nat → jgU → Nat → Sum jwF (jgU × Nat)
  | 0, _, i => jaIf1 (jtK X i = 40 ∨ (115 ≤ jtK X i ∧ jtK X i ≤ 128)) (.inl (4, i)) (.inl (1, i))
  | e + 1, u, i => jaIf1 (jtK X i = 40 ∨ (115 ≤ jtK X i ∧ jtK X i ≤ 128)) (jaIf1 (u.2 = 20) (.inl (4, i)) (jaIf1 (jtK X i = 40) (jwB (jgOr X (jgOne X nm n0 nK e) (u.1, u.2 + 1) (i + 1)) fun y => jaIf1 (jtK X y.2 = 41) (.inr (y.1, y.2 + 1)) (.inl (1, y.2))) (jaIf1 (jtK X i = 115) (jwB (jgOne X nm n0 nK e (u.1, u.2 + 1) (i + 1)) fun y => .inr ((y.1.1 ++ [(20, 0, 0)], y.1.2), y.2)) (jwB (jgLeaf X nm n0 nK i) fun y => .inr ((u.1 ++ [y.1], u.2 + 1), y.2))))) (.inl (1, i))
/-- all of it: its codes -/
noncomputable def jgAll (X : jtX) (nm : Nat → Nat) (n0 nK : Nat) : Sum jwF jgU := jwB (jgOr X (jgOne X nm n0 nK 8) ([], 0) 0) fun y => jaIf1 (jtK X y.2 = 1) (.inr y.1) (.inl (1, y.2))
/-! what such a run may be -/
def jgF (f : jgU → Nat → Sum jwF (jgU × Nat)) : Prop := ∀ u i u' i', f u i = .inr (u', i') → u.2 ≤ 20 → u.2 < u'.2 ∧ u'.2 ≤ 20 ∧ u'.1.length + 1 + 2 * u.2 ≤ u.1.length + 2 * u'.2
theorem jgLoop_r {X : jtX} {f : jgU → Nat → Sum jwF (jgU × Nat)} {tok w : Nat} (hf : jgF f) : ∀ n u i u' i', jgLoop X f tok w n u i = .inr (u', i') → u.2 ≤ 20 → u.2 ≤ u'.2 ∧ u'.2 ≤ 20 ∧ u'.1.length + 2 * u.2 ≤ u.1.length + 2 * u'.2 ∧ jtK X i' ≠ tok
  | 0, u, i, u', i', h, _ => by cases h
  | n + 1, u, i, u', i', h, hu => by
    rw [jgLoop] at h
    by_cases q : jtK X i = tok
    · rw [jaIf1_t q] at h
      obtain ⟨⟨u1, i1⟩, e1, e2⟩ := jwB_r h
      obtain ⟨a, b, c⟩ := hf _ _ _ _ e1 hu
      obtain ⟨d, e, g, k⟩ := jgLoop_r hf n _ _ _ _ e2 b
      have g : u'.1.length + 2 * u1.2 ≤ (u1.1 ++ [(w, 0, 0)]).length + 2 * u'.2 := g
      have d : u1.2 ≤ u'.2 := d
      rw [List.length_append] at g
      simp only [List.length_cons, List.length_nil] at g
      exact ⟨by omega, e, by omega, k⟩
    · rw [jaIf1_f q] at h
      cases h
      exact ⟨Nat.le_refl _, hu, by omega, q⟩
theorem jgAnd_r {X : jtX} {f : jgU → Nat → Sum jwF (jgU × Nat)} (hf : jgF f) : jgF (jgAnd X f) := by
  intro u i u' i' h hu
  unfold jgAnd at h
  obtain ⟨⟨u1, i1⟩, e1, e2⟩ := jwB_r h
  obtain ⟨a, b, c⟩ := hf _ _ _ _ e1 hu
  obtain ⟨d, e, g, k⟩ := jgLoop_r hf 20 _ _ _ _ e2 b
  have g : u'.1.length + 2 * u1.2 ≤ u1.1.length + 2 * u'.2 := g
  have d : u1.2 ≤ u'.2 := d
  exact ⟨by omega, e, by omega⟩
theorem jgOr_r {X : jtX} {f : jgU → Nat → Sum jwF (jgU × Nat)} (hf : jgF f) : jgF (jgOr X f) := by
  intro u i u' i' h hu
  unfold jgOr at h
  obtain ⟨⟨u1, i1⟩, e1, e2⟩ := jwB_r h
  obtain ⟨a, b, c⟩ := jgAnd_r hf _ _ _ _ e1 hu
  obtain ⟨d, e, g, k⟩ := jgLoop_r (jgAnd_r hf) 20 _ _ _ _ e2 b
  have g : u'.1.length + 2 * u1.2 ≤ u1.1.length + 2 * u'.2 := g
  have d : u1.2 ≤ u'.2 := d
  exact ⟨by omega, e, by omega⟩
theorem jgOne_r {X : jtX} {nm : Nat → Nat} {n0 nK : Nat} : ∀ e, jgF (jgOne X nm n0 nK e)
  | 0, u, i, u', i', h, _ => by
    rw [jgOne] at h
    by_cases q : jtK X i = 40 ∨ (115 ≤ jtK X i ∧ jtK X i ≤ 128)
    · rw [jaIf1_t q] at h; cases h
    · rw [jaIf1_f q] at h; cases h
  | e + 1, u, i, u', i', h, hu => by
    rw [jgOne] at h
    by_cases q : jtK X i = 40 ∨ (115 ≤ jtK X i ∧ jtK X i ≤ 128)
    · rw [jaIf1_t q] at h
      by_cases q2 : u.2 = 20
      · rw [jaIf1_t q2] at h; cases h
      · rw [jaIf1_f q2] at h
        by_cases q3 : jtK X i = 40
        · rw [jaIf1_t q3] at h
          obtain ⟨⟨u1, i1⟩, e1, e2⟩ := jwB_r h
          obtain ⟨a, b, c⟩ := jgOr_r (jgOne_r e) _ _ _ _ e1 (show u.2 + 1 ≤ 20 by omega)
          by_cases q4 : jtK X i1 = 41
          · rw [jaIf1_t q4] at e2
            cases e2
            have a : u.2 + 1 < u1.2 := a
            have c : u1.1.length + 1 + 2 * (u.2 + 1) ≤ u.1.length + 2 * u1.2 := c
            show u.2 < u1.2 ∧ u1.2 ≤ 20 ∧ u1.1.length + 1 + 2 * u.2 ≤ u.1.length + 2 * u1.2
            exact ⟨by omega, b, by omega⟩
          · rw [jaIf1_f q4] at e2; cases e2
        · rw [jaIf1_f q3] at h
          by_cases q4 : jtK X i = 115
          · rw [jaIf1_t q4] at h
            obtain ⟨⟨u1, i1⟩, e1, e2⟩ := jwB_r h
            obtain ⟨a, b, c⟩ := jgOne_r e _ _ _ _ e1 (show u.2 + 1 ≤ 20 by omega)
            cases e2
            have a : u.2 + 1 < u1.2 := a
            have c : u1.1.length + 1 + 2 * (u.2 + 1) ≤ u.1.length + 2 * u1.2 := c
            show u.2 < u1.2 ∧ u1.2 ≤ 20 ∧ (u1.1 ++ [(20, 0, 0)]).length + 1 + 2 * u.2 ≤ u.1.length + 2 * u1.2
            rw [List.length_append]
            simp only [List.length_cons, List.length_nil]
            exact ⟨by omega, b, by omega⟩
          · rw [jaIf1_f q4] at h
            obtain ⟨⟨y1, i1⟩, e1, e2⟩ := jwB_r h
            cases e2
            show u.2 < u.2 + 1 ∧ u.2 + 1 ≤ 20 ∧ (u.1 ++ [y1]).length + 1 + 2 * u.2 ≤ u.1.length + 2 * (u.2 + 1)
            rw [List.length_append]
            simp only [List.length_cons, List.length_nil]
            exact ⟨by omega, by omega, by omega⟩
    · rw [jaIf1_f q] at h; cases h
/-- it says something -/
def jgFn (f : jgU → Nat → Sum jwF (jgU × Nat)) : Prop := ∀ u i u' i', f u i = .inr (u', i') → u.1.length < u'.1.length
theorem jgLoop_n {X : jtX} {f : jgU → Nat → Sum jwF (jgU × Nat)} {tok w : Nat} (hf : jgFn f) : ∀ n u i u' i', jgLoop X f tok w n u i = .inr (u', i') → u.1.length ≤ u'.1.length
  | 0, u, i, u', i', h => by cases h
  | n + 1, u, i, u', i', h => by
    rw [jgLoop] at h
    by_cases q : jtK X i = tok
    · rw [jaIf1_t q] at h
      obtain ⟨⟨u1, i1⟩, e1, e2⟩ := jwB_r h
      have a := hf _ _ _ _ e1
      have b := jgLoop_n hf n _ _ _ _ e2
      have b : (u1.1 ++ [(w, 0, 0)]).length ≤ u'.1.length := b
      rw [List.length_append] at b
      omega
    · rw [jaIf1_f q] at h
      cases h
      exact Nat.le_refl _
theorem jgAnd_n {X : jtX} {f : jgU → Nat → Sum jwF (jgU × Nat)} (hf : jgFn f) : jgFn (jgAnd X f) := by
  intro u i u' i' h
  unfold jgAnd at h
  obtain ⟨⟨u1, i1⟩, e1, e2⟩ := jwB_r h
  exact Nat.lt_of_lt_of_le (hf _ _ _ _ e1) (jgLoop_n hf 20 _ _ _ _ e2)
theorem jgOr_n {X : jtX} {f : jgU → Nat → Sum jwF (jgU × Nat)} (hf : jgFn f) : jgFn (jgOr X f) := by
  intro u i u' i' h
  unfold jgOr at h
  obtain ⟨⟨u1, i1⟩, e1, e2⟩ := jwB_r h
  exact Nat.lt_of_lt_of_le (jgAnd_n hf _ _ _ _ e1) (jgLoop_n (jgAnd_n hf) 20 _ _ _ _ e2)
theorem jgOne_n {X : jtX} {nm : Nat → Nat} {n0 nK : Nat} : ∀ e, jgFn (jgOne X nm n0 nK e)
  | 0, u, i, u', i', h => by
    rw [jgOne] at h
    by_cases q : jtK X i = 40 ∨ (115 ≤ jtK X i ∧ jtK X i ≤ 128)
    · rw [jaIf1_t q] at h; cases h
    · rw [jaIf1_f q] at h; cases h
  | e + 1, u, i, u', i', h => by
    rw [jgOne] at h
    by_cases q : jtK X i = 40 ∨ (115 ≤ jtK X i ∧ jtK X i ≤ 128)
    · rw [jaIf1_t q] at h
      by_cases q2 : u.2 = 20
      · rw [jaIf1_t q2] at h; cases h
      · rw [jaIf1_f q2] at h
        by_cases q3 : jtK X i = 40
        · rw [jaIf1_t q3] at h
          obtain ⟨⟨u1, i1⟩, e1, e2⟩ := jwB_r h
          have a := jgOr_n (jgOne_n e) _ _ _ _ e1
          by_cases q4 : jtK X i1 = 41
          · rw [jaIf1_t q4] at e2
            cases e2
            exact a
          · rw [jaIf1_f q4] at e2; cases e2
        · rw [jaIf1_f q3] at h
          by_cases q4 : jtK X i = 115
          · rw [jaIf1_t q4] at h
            obtain ⟨⟨u1, i1⟩, e1, e2⟩ := jwB_r h
            have a := jgOne_n e _ _ _ _ e1
            have a : u.1.length < u1.1.length := a
            cases e2
            show u.1.length < (u1.1 ++ [(20, 0, 0)]).length
            rw [List.length_append]
            omega
          · rw [jaIf1_f q4] at h
            obtain ⟨⟨y1, i1⟩, e1, e2⟩ := jwB_r h
            cases e2
            show u.1.length < (u.1 ++ [y1]).length
            rw [List.length_append]
            simp only [List.length_cons, List.length_nil]
            omega
    · rw [jaIf1_f q] at h; cases h
theorem jgAp {A : Type} {l : List A} {y c : A} {j : Nat} (h : (l ++ [y])[j]? = some c) : (j < l.length ∧ l[j]? = some c) ∨ (j = l.length ∧ c = y) := by
  by_cases q : j < l.length
  · rw [List.getElem?_append_left q] at h
    exact Or.inl ⟨q, h⟩
  · rw [List.getElem?_append_right (by omega)] at h
    obtain ⟨n, hn⟩ : ∃ n, n = j - l.length := ⟨_, rfl⟩
    rw [← hn] at h
    cases n with
    | zero =>
      cases h
      exact Or.inr ⟨by omega, rfl⟩
    | succ n => cases h
/-- codes as rows -/
def jgRow (R : jvA) (l : List jbY) : Prop := ∀ j c, l[j]? = some c → R (3 * j) = nI c.1 ∧ R (3 * j + 1) = nI c.2.1 ∧ R (3 * j + 2) = nI c.2.2
def jgKi (w : Nat) : Nat := if w = 20 then 115 else if w = 21 then 114 else if w = 22 then 113 else 116 + w
def jgC (T : jaS) (u : jgU) : Prop := T.1 20 0 2 = nI u.1.length ∧ T.1 20 0 1 = nI u.2 ∧ ∀ (j : Nat) (c : jbY), u.1[j]? = some c → T.1 21 0 j = nI (jgKi c.1) ∧ T.1 22 0 j = nI c.2.1 ∧ T.1 23 0 j = nI c.2.2
/-! the class -/
abbrev jcSn (k : Nat) : jaV := .inr (.inr (20, k, 0))
theorem sp_Sn_add {D : Nat} (hD : 1 ≤ D) {kk : Int32 → jaT → Prop} {τ : jaT} {k w a b : Nat} {u : jgU} (hC : jgC (τ k) u) (hl : u.1.length < 40) (hb : b < 1000) (h : ∀ T', jgC T' (u.1 ++ [(w, a, b)], u.2) → kk (nI 1) (jaU τ k T')) : jaDe D jy_Sn_add [jcSn k, .inl (nI (jgKi w)), .inl (nI a), .inl (nI b)] τ (jaKi kk) := by
  obtain ⟨c2, c1, cr⟩ := hC
  obtain ⟨D, rfl, hD⟩ := jaSuc hD
  apply js_Sn_add
  simp (disch := first | omega | decide) only [jaU_eq, jaU_U, nI_add, pk_mul, jaIx_nI, vp_inT, true_and, and_true, ↓jaO0, ↓jaO1, nI_z, nI_z2, nI_z3, nI_z4, nI_z5, nI_lt', nI_le', nI_eq', jaUI_at, jaPt_eq, jaPt_ne, jaUI_o, jaUI_2, jaUL_at, jaUL_o, jaUL_1, jaB_z, jaB_1, ↓jaB_01, Classical.not_not, and_self, true_or, or_true, nI_11, Nat.reduceEqDiff, Nat.reduceAdd, Nat.reduceMul, Nat.add_zero, Nat.zero_add, Nat.mul_zero, not_true_eq_false, not_false_eq_true, false_implies, true_implies, c2]
  refine ⟨fun z => absurd z (by omega), fun _ => ?_⟩
  refine h _ ⟨?_, ?_, fun j c hj => ?_⟩
  · rw [List.length_append]
    simp (disch := first | omega | decide) only [jaU_eq, jaU_U, nI_add, pk_mul, jaIx_nI, vp_inT, true_and, and_true, ↓jaO0, ↓jaO1, nI_z, nI_z2, nI_z3, nI_z4, nI_z5, nI_lt', nI_le', nI_eq', jaUI_at, jaPt_eq, jaPt_ne, jaUI_o, jaUI_2, jaUL_at, jaUL_o, jaUL_1, jaB_z, jaB_1, ↓jaB_01, Classical.not_not, and_self, true_or, or_true, nI_11, Nat.reduceEqDiff, Nat.reduceAdd, Nat.reduceMul, Nat.add_zero, Nat.zero_add, Nat.mul_zero, not_true_eq_false, not_false_eq_true, false_implies, true_implies]
    rfl
  · simp (disch := first | omega | decide) only [jaU_eq, jaU_U, nI_add, pk_mul, jaIx_nI, vp_inT, true_and, and_true, ↓jaO0, ↓jaO1, nI_z, nI_z2, nI_z3, nI_z4, nI_z5, nI_lt', nI_le', nI_eq', jaUI_at, jaPt_eq, jaPt_ne, jaUI_o, jaUI_2, jaUL_at, jaUL_o, jaUL_1, jaB_z, jaB_1, ↓jaB_01, Classical.not_not, and_self, true_or, or_true, nI_11, Nat.reduceEqDiff, Nat.reduceAdd, Nat.reduceMul, Nat.add_zero, Nat.zero_add, Nat.mul_zero, not_true_eq_false, not_false_eq_true, false_implies, true_implies, c1]
  · have hj : (u.1 ++ [(w, a, b)])[j]? = some c := hj
    simp (disch := first | omega | decide) only [jaU_eq, jaU_U, nI_add, pk_mul, jaIx_nI, vp_inT, true_and, and_true, ↓jaO0, ↓jaO1, nI_z, nI_z2, nI_z3, nI_z4, nI_z5, nI_lt', nI_le', nI_eq', jaUI_at, jaPt_eq, jaPt_ne, jaUI_o, jaUI_2, jaUL_at, jaUL_o, jaUL_1, jaB_z, jaB_1, ↓jaB_01, Classical.not_not, and_self, true_or, or_true, nI_11, Nat.reduceEqDiff, Nat.reduceAdd, Nat.reduceMul, Nat.add_zero, Nat.zero_add, Nat.mul_zero, not_true_eq_false, not_false_eq_true, false_implies, true_implies]
    rcases jgAp hj with ⟨q, hj⟩ | ⟨q, rfl⟩
    · rw [jaPt_ne (by omega), jaPt_ne (by omega), jaPt_ne (by omega)]
      exact cr j c hj
    · subst q
      rw [jaPt_eq, jaPt_eq, jaPt_eq]
      exact ⟨rfl, rfl, rfl⟩
theorem sp_Sn_add_n {D : Nat} (hD : 1 ≤ D) {kk : Int32 → jaT → Prop} {τ : jaT} {k : Nat} {x1 x2 : Int32} {u : jgU} (hC : jgC (τ k) u) (hl : u.1.length < 40) (h : kk (nI 0) τ) : jaDe D jy_Sn_add [jcSn k, .inl x1, .inl x2, .inl (-1)] τ (jaKi kk) := by
  obtain ⟨D, rfl, hD⟩ := jaSuc hD
  apply js_Sn_add
  rw [hC.1]
  refine ⟨fun z => absurd z (by rw [nI_le' (by omega) (by omega)]; omega), fun _ => ⟨fun z => absurd (show (0 : Int32) ≤ -1 from z) (by decide), fun _ => ⟨Or.inl rfl, h⟩⟩⟩
end
