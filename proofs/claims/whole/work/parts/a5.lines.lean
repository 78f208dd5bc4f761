section
/-! book: the class's lines -/
noncomputable def jbA (A : jaS) (w : Int32) (n : Nat) (t o : Int32) : jaS := jaUI (jaUI (jaUI (jaUI (jaUI A 0 0 17 (nI 1)) 10 0 0 w) 10 0 1 (nI n)) 10 0 2 t) 10 0 3 o
/-- what comes behind the lines -/
def jbZ (D : Nat) (kk : Int32 → jaT → Prop) (x1 w : Int32) (n : Nat) (τ : jaT) : Prop := (¬ x1 = nI 1 → (¬ w = 0 → kk (nI n) τ) ∧ (w = 0 → kk (-1 : Int32) τ)) ∧ (x1 = nI 1 → (nI n ≤ 0 → (¬ w = 0 → kk (nI n) τ) ∧ (w = 0 → kk (-1 : Int32) τ)) ∧ (¬ nI n ≤ 0 → jaDe D jy_A_keepState [jcA] τ (jaKv fun σ6 => jaDe D jy_St_copyFrom [jcSt 1, jcSt 2] σ6 (jaKv fun σ7 => (¬ w = 0 → kk (nI n) σ7) ∧ (w = 0 → kk (-1 : Int32) σ7)))))
theorem jbLines {D : Nat} (hD : 8 ≤ D) {kk : Int32 → jaT → Prop} {x1 : Int32} {τ : jaT} {ls : Nat → jbY} {n n0 n2 : Nat} (hC : jbC (τ 0) ls n) (hn : n ≤ 40) (hok : ∀ j, j < n → jbOk n0 n2 (ls j)) : ∀ m i x S2, i + m = n → jR S2 x → jW3 x → jz x.1 31 ≤ 1000 → jz x.1 0 = n0 → jz x.1 2 = n2 →
    (∀ S', jR S' (jbGo ls m i x).2.2 → S'.2 = S2.2 → jbZ D kk x1 (jbGo ls m i x).1 (jbGo ls m i x).2.1 (jaU (jaU τ 2 S') 0 (jbA (τ 0) (jbGo ls m i x).1 (jbGo ls m i x).2.1 ((jbGo ls m i x).2.2.1 31) ((jbGo ls m i x).2.2.1 34)))) → jc_A_book_3 D kk x1 (nI 0) (nI i) (nI i) (jaU τ 2 S2) := by
  intro m
  have e0 : ∀ S', jaU τ 2 S' 0 = τ 0 := fun S' => jaU_ne (by decide)
  have c6 : (τ 0).1 6 0 0 = nI n := hC.1
  have E : ∀ (w : Int32) (i x4 : Nat) (S2 : jaS) (x : jvX), jR S2 x → jbZ D kk x1 w i (jaU (jaU τ 2 S2) 0 (jbA (τ 0) w i (x.1 31) (x.1 34))) → (n ≤ x4 ∨ ¬ w = 0) → x4 < 100 → jc_A_book_3 D kk x1 w (nI i) (nI x4) (jaU τ 2 S2) := by
    intro w i x4 S2 x hR h hc h4
    have hd : ∀ A : jaS, jaU (jaU τ 2 S2) 0 A 2 = S2 := fun A => by rw [jaU_ne (by decide), jaU_eq]
    have t31 : S2.1 40 0 5 = x.1 31 := hR.t
    have t34 : S2.1 60 0 1 = x.1 34 := hR.o.2.1
    apply jb_A_book_3
    rw [e0, c6]
    simp only [jaU_eq, jaU_U, e0, hd, jaIx_nI (show 0 < 2147483648 by decide), jaIx_nI (show 1 < 2147483648 by decide), jaIx_nI (show 2 < 2147483648 by decide), jaIx_nI (show 3 < 2147483648 by decide), t31, t34]
    refine ⟨fun _ => ⟨Or.inr rfl, of_eq_true (vp_inT (by decide) (by decide)), of_eq_true (vp_inT (by decide) (by decide)), of_eq_true (vp_inT (by decide) (by decide)), of_eq_true (vp_inT (by decide) (by decide)), h⟩, fun z => ⟨fun _ => ⟨Or.inr rfl, of_eq_true (vp_inT (by decide) (by decide)), of_eq_true (vp_inT (by decide) (by decide)), of_eq_true (vp_inT (by decide) (by decide)), of_eq_true (vp_inT (by decide) (by decide)), h⟩, fun y => ?_⟩⟩
    rcases hc with hc | hc
    · exact absurd (by rw [nI_le' (by omega) (by omega)]; exact hc) z
    · exact absurd y hc
  induction m with
  | zero =>
    intro i x S2 hi hR hW ht h0 h2 h
    exact E (nI 0) i i S2 x hR (h S2 hR rfl) (Or.inl (by omega)) (by omega)
  | succ m ih =>
    intro i x S2 hi hR hW ht h0 h2 h
    have hin : i < n := by omega
    obtain ⟨l1, l2, l3⟩ := hC.2 i hin
    have hb := jbOk_l (s := x.1) (by rw [h0, h2]; exact hok i hin)
    obtain ⟨w1, w2, w3⟩ := jvLv_W hW ht hb
    apply jb_A_book_3
    rw [e0, c6]
    refine ⟨fun z => absurd z (by rw [nI_le' (by omega) (by omega)]; omega), fun _ => ⟨fun z => absurd rfl z, fun _ => ?_⟩⟩
    simp (disch := first | omega | decide) only [jaU_eq, jaU_U, nI_add, pk_mul, jaIx_nI, vp_inT, true_and, and_true, ↓jaO0, ↓jaO1, nI_z, nI_z2, nI_z3, nI_z4, nI_z5, nI_lt', nI_le', nI_eq', jaUI_at, jaPt_eq, jaPt_ne, jaUI_o, jaUI_2, jaUL_at, jaUL_o, jaUL_1, jaB_z, jaB_1, ↓jaB_01, Classical.not_not, and_self, true_or, or_true, nI_11, Nat.reduceEqDiff, Nat.reduceAdd, Nat.reduceMul, Nat.add_zero, Nat.zero_add, Nat.mul_zero, not_true_eq_false, not_false_eq_true, false_implies, true_implies, l1, l2, l3]
    refine sp_St_live (by omega) hR hW ht hb (fun S' r' e' => ?_)
    rw [jbGo] at h
    refine ⟨fun z => ?_, fun z => ?_⟩
    · rw [jaIf1_f (show ¬ (jvLv (ls i).1 (ls i).2.1 (ls i).2.2 x).1 = nI 0 from z)] at h
      exact E _ i (i + 1) S' _ r' (h S' r' (congrArg Prod.fst e')) (Or.inr z) (by omega)
    · rw [jaIf1_t (show (jvLv (ls i).1 (ls i).2.1 (ls i).2.2 x).1 = nI 0 from z)] at h
      rw [z]
      exact ih (i + 1) _ S' (by omega) r' w1 w3 ((jz_c (w2.1 0 (Or.inl (by decide)))).trans h0) ((jz_c (w2.1 2 (Or.inl (by decide)))).trans h2) (fun S3 a b => h S3 a (b.trans (congrArg Prod.fst e')))
end
