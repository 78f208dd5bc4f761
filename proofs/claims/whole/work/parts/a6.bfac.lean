section
/-! rows grown, and slice 0 changed; a LINE that isn't lived leaves all -/
theorem jI_AG {σ τ : jaT} {B' : jaS} (h : jI σ) (τn : ∀ k, k ≠ 0 → k ≠ 2 → k ≠ 20 → τ k = σ k) (ht : jIt (τ 0) B') (hb : jIb (τ 0) B') (hf : jIf (τ 0) B') (a0 : ∀ j, j ∈ [8, 9, 11] → (τ 0).1 0 0 j = (σ 0).1 0 0 j) (a15 : (τ 0).1 15 0 = (σ 0).1 15 0)
    (b72 : B'.1 72 0 = (σ 20).1 72 0) (b83 : B'.1 83 0 = (σ 20).1 83 0) (h75 : ∀ j, j < 133 * jz ((σ 20).1 72 0) 32 → B'.1 75 0 j = (σ 20).1 75 0 j) (h76 : ∀ j, j < 9 * jz ((σ 20).1 72 0) 33 → B'.1 76 0 j = (σ 20).1 76 0 j)
    (bs : ∀ o, o ∈ [91, 92, 93, 95] → B'.1 o = (σ 20).1 o) (bl : ∀ o, o ∈ [78, 79, 94] → B'.2 o = (σ 20).2 o) (b33 : B'.1 70 0 33 = (σ 20).1 70 0 33) : jI (jaU τ 20 B') := by
  obtain ⟨h1, h2, h3, h4, h5, h6, h7, h8⟩ := h
  have n : ∀ k, k ≠ 20 → jaU τ 20 B' k = τ k := fun k hk => jaU_ne hk
  have e20 : jaU τ 20 B' 20 = B' := jaU_eq
  unfold jI
  rw [e20, n 0 (by decide), n 1 (by decide)]
  refine ⟨ht, ?_, ?_, ?_, ?_, hb, hf, ?_⟩
  · unfold jIs jIx
    rw [b72, bl 78 (by decide), τn 1 (by decide) (by decide) (by decide)]
    exact ⟨jR_g h2.1 h2.2.1 h75 h76, jW_g h2.2.1 h75 h76, h2.2.2⟩
  · obtain ⟨m, q, a, b, c, d, e, i, k⟩ := h3
    refine ⟨m, q, a, b, (a0 9 (by decide)).trans c, (a0 8 (by decide)).trans d, b33.trans e, by rw [b72, b83]; exact i, fun j hj => ?_⟩
    rw [n _ (by omega), n 1 (by decide), τn _ (by omega) (by omega) (by omega), τn 1 (by decide) (by decide) (by decide), b72, b83]
    obtain ⟨y, y1, y2, y3, y4, y5, y6⟩ := k j hj
    obtain ⟨z1, z2⟩ := i.2 j hj
    have e1 : jz ((σ 20).1 83 0) (494 * j + 1) = jz y 32 := by
      unfold jz
      rw [y4 1 (by decide)]
    have e2 : jz ((σ 20).1 83 0) (494 * j + 2) = jz y 33 := by
      unfold jz
      rw [y4 2 (by decide)]
    rw [e1] at z1
    rw [e2] at z2
    exact ⟨y, jR_g y1 y2 (fun j hj => h75 j (by omega)) (fun j hj => h76 j (by omega)), jW_g y2 (fun j hj => h75 j (by omega)) (fun j hj => h76 j (by omega)), y3, y4, y5, y6⟩
  · obtain ⟨w, a, b, c⟩ := h4
    exact ⟨w, a, (a0 11 (by decide)).trans b, by rw [n _ (by omega), τn _ (by omega) (by omega) (by omega), b72]; exact c⟩
  · intro k hk
    rw [a15, bs 95 (by decide), n _ (by omega), n _ (by omega), τn (11 + k) (by omega) (by omega) (by omega), τn (16 + k) (by omega) (by omega) (by omega)]
    unfold jIi1
    rw [bs 91 (by decide), bs 92 (by decide), bs 93 (by decide), bl 94 (by decide)]
    exact h5 k hk
  · unfold jIm jmV
    rw [bl 79 (by decide), n 13 (by decide), τn 13 (by decide) (by decide) (by decide)]
    exact h8
theorem jaIf_i {α : Type} {p : Prop} {a b : α} {P : α → Prop} (h1 : p → P a) (h2 : ¬ p → P b) : P (jaIf1 p a b) := by
  by_cases q : p
  · rw [jaIf1_t q]
    exact h1 q
  · rw [jaIf1_f q]
    exact h2 q
theorem jvLv_no {t a b : Nat} {x : jvX} : (jvLv t a b x).1 = nI 0 ∨ (jvLv t a b x).2 = x := by
  unfold jvLv
  refine jaIf_i (P := fun y : Int32 × jvX => y.1 = nI 0 ∨ y.2 = x) (fun _ => ?_) (fun _ => ?_)
  · refine jaIf_i (P := fun y : Int32 × jvX => y.1 = nI 0 ∨ y.2 = x) (fun _ => ?_) (fun _ => Or.inr rfl)
    exact jaIf_i (P := fun y : Int32 × jvX => y.1 = nI 0 ∨ y.2 = x) (fun _ => Or.inr rfl) (fun _ => Or.inl rfl)
  · refine jaIf_i (P := fun y : Int32 × jvX => y.1 = nI 0 ∨ y.2 = x) (fun _ => ?_) (fun _ => ?_)
    · exact jaIf_i (P := fun y : Int32 × jvX => y.1 = nI 0 ∨ y.2 = x) (fun _ => Or.inr rfl) (fun _ => Or.inl rfl)
    · refine jaIf_i (P := fun y : Int32 × jvX => y.1 = nI 0 ∨ y.2 = x) (fun _ => ?_) (fun _ => ?_)
      · exact jaIf_i (P := fun y : Int32 × jvX => y.1 = nI 0 ∨ y.2 = x) (fun _ => Or.inr rfl) (fun _ => Or.inl rfl)
      · exact jaIf_i (P := fun y : Int32 × jvX => y.1 = nI 0 ∨ y.2 = x) (fun _ => Or.inr rfl) (fun _ => Or.inl rfl)
theorem jbGo_ge {ls : Nat → jbY} : ∀ m i x, i ≤ (jbGo ls m i x).2.1
  | 0, i, x => Nat.le_refl _
  | m + 1, i, x => by
    rw [jbGo]
    exact jaIf_i (P := fun y : Int32 × Nat × jvX => i ≤ y.2.1) (fun _ => Nat.le_of_succ_le (jbGo_ge m (i + 1) _)) (fun _ => Nat.le_refl _)
theorem jbGo_no {ls : Nat → jbY} {m : Nat} {x : jvX} (h : (jbGo ls m 0 x).2.1 = 0) : (jbGo ls m 0 x).2.2 = x := by
  cases m with
  | zero => rfl
  | succ m =>
    rw [jbGo] at h ⊢
    by_cases q : (jvLv (ls 0).1 (ls 0).2.1 (ls 0).2.2 x).1 = nI 0
    · rw [jaIf1_t q] at h
      have := jbGo_ge (ls := ls) m (0 + 1) (jvLv (ls 0).1 (ls 0).2.1 (ls 0).2.2 x).2
      omega
    · rw [jaIf1_f q]
      exact jvLv_no.resolve_left q
end
