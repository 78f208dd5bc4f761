section
/-! each number below is one of n numbers that differ -/
theorem jaPig : ∀ (n : Nat) (f : Nat → Nat), (∀ i, i < n → f i < n) → (∀ i j, i < j → j < n → f i ≠ f j) → ∀ v, v < n → ∃ i, i < n ∧ f i = v
  | 0, _, _, _, _, h => absurd h (by omega)
  | n + 1, f, h1, h2, v, hv => by
    by_cases q : f n = v
    · exact ⟨n, by omega, q⟩
    · by_cases q2 : f n = n
      · obtain ⟨i, hi, e⟩ := jaPig n f (fun i hi => by have := h1 i (by omega); have := h2 i n hi (by omega); omega) (fun i j hij hj => h2 i j hij (by omega)) v (by omega)
        exact ⟨i, by omega, e⟩
      · have hn := h1 n (by omega)
        have g : ∀ w, w < n → ∃ i, i < n ∧ (fun i => if f i = n then f n else f i) i = w := jaPig n (fun i => if f i = n then f n else f i) (fun i hi => by
          have := h1 i (by omega)
          by_cases x : f i = n
          · simp only [if_pos x]; omega
          · simp only [if_neg x]; omega) (fun i j hij hj => by
          have a1 := h2 i j hij (by omega)
          have a2 := h2 i n (by omega) (by omega)
          have a3 := h2 j n (by omega) (by omega)
          by_cases x : f i = n
          · by_cases y : f j = n
            · exact absurd (x.trans y.symm) a1
            · simp only [if_pos x, if_neg y]; exact fun z => a3 z.symm
          · by_cases y : f j = n
            · simp only [if_neg x, if_pos y]; exact a2
            · simp only [if_neg x, if_neg y]; exact a1)
        by_cases y : v = n
        · obtain ⟨i, hi, e⟩ := g (f n) (by omega)
          by_cases x : f i = n
          · exact ⟨i, by omega, by omega⟩
          · simp only [if_neg x] at e
            exact absurd e (h2 i n hi (by omega))
        · obtain ⟨i, hi, e⟩ := g v (by omega)
          by_cases x : f i = n
          · simp only [if_pos x] at e
            exact absurd e q
          · simp only [if_neg x] at e
            exact ⟨i, by omega, e⟩
theorem jWo.all {s : jvA} (h : jWo s) {id : Nat} (hid : id < jz s 33) : (∃ i, i < jz s 34 ∧ jz s (41 + i) = id) ∨ ∃ i, i < jz s 35 ∧ jz s (81 + i) = id := by
  have h5 := h.2.2.2.2.1
  have h9 := h.2.2.2.2.2.2.2.2
  obtain ⟨i, hi, e⟩ := jaPig (jz s 33) (fun i => if i < jz s 34 then jz s (41 + i) else jz s (81 + (i - jz s 34))) (fun i hi => by
    by_cases x : i < jz s 34
    · simp only [if_pos x]; exact (h.id x).2
    · simp only [if_neg x]; exact (h.come (show i - jz s 34 < jz s 35 by omega)).2) (fun i j hij hj => by
    by_cases y : j < jz s 34
    · simp only [if_pos y, if_pos (show i < jz s 34 by omega)]
      exact h9.2.1 i j hij y
    · by_cases x : i < jz s 34
      · simp only [if_neg y, if_pos x]
        exact h9.2.2.1 i _ x (by omega)
      · simp only [if_neg y, if_neg x]
        have := h9.1 (i - jz s 34) (j - jz s 34) (by omega) (by omega)
        omega) id hid
  by_cases x : i < jz s 34
  · simp only [if_pos x] at e
    exact Or.inl ⟨i, x, e⟩
  · simp only [if_neg x] at e
    exact Or.inr ⟨i - jz s 34, by omega, e⟩
theorem jR_b65 {S : jaS} {s d e : jvA} (hR : jR S (s, d, e)) (hW : jW s d e) {id : Nat} (hid : id < jz s 33) : S.1 65 0 id = 0 ∨ S.1 65 0 id = 1 := by
  rcases hW.o.all hid with ⟨i, hi, rfl⟩ | ⟨i, hi, rfl⟩
  · rw [(hR.o.2.2.1 i hi).2.1]
    exact (hW.o.2.2.2.2.2.2.2.2.2.2.2 i (by have := hW.o.ord.2; omega)).1
  · exact Or.inl (hR.o.2.2.2 i hi).1
/-! the class: a state is another one's -/
/-- but sorts of a list the numbers stay -/
def jcG (A : List Nat) (S S' : jaS) : Prop := ∀ o, o ∉ A → S'.1 o = S.1 o
theorem jcG.ui {A : List Nat} {S S' : jaS} {o c j : Nat} {v : Int32} (h : jcG A S S') (ho : o ∈ A) : jcG A S (jaUI S' o c j v) :=
  fun q hq => by rw [jaUI_o (fun e => hq (by rw [e]; exact ho))]; exact h q hq
theorem jcG.ul {A : List Nat} {S S' : jaS} {o c j : Nat} {v : Int64} (h : jcG A S S') : jcG A S (jaUL S' o c j v) := fun q hq => h q hq
theorem jcG.trans {A B C : List Nat} {S S' S'' : jaS} (h : jcG A S S') (h' : jcG B S' S'') (hA : ∀ o, o ∈ A → o ∈ C) (hB : ∀ o, o ∈ B → o ∈ C) : jcG C S S'' := fun o ho => (h' o (fun q => ho (hB o q))).trans (h o (fun q => ho (hA o q)))
theorem jcG.rfl {A : List Nat} {S : jaS} : jcG A S S := fun _ _ => Eq.refl _
theorem jcF.g {A : List Nat} {S S' : jaS} (h : jcF A S S') : jcG A S S' := h.1
/-- as far as n alike -/
def jcQ (f g : jvA) (n : Nat) : Prop := ∀ j, j < n → f j = g j
theorem jcQ.ui {S : jaS} {o c i : Nat} {g : jvA} (h : jcQ (S.1 o c) g i) : jcQ ((jaUI S o c i (g i)).1 o c) g (i + 1) := fun j hj => by
  rw [jaUI_at]
  by_cases q : j = i
  · rw [q, jaPt_eq]
  · rw [jaPt_ne q]
    exact h j (by omega)
theorem jcQ.uo {S : jaS} {o o' c c' i n : Nat} {g : jvA} {v : Int32} (h : jcQ (S.1 o c) g n) (ho : o ≠ o') : jcQ ((jaUI S o' c' i v).1 o c) g n := by
  rw [jaUI_o ho]
  exact h
theorem jcQ_0 {f g : jvA} : jcQ f g 0 := fun _ h => absurd h (by omega)
def jcQl (f g : Nat → Int64) (n : Nat) : Prop := ∀ j, j < n → f j = g j
theorem jcQl.ui {S : jaS} {o c i : Nat} {g : Nat → Int64} (h : jcQl (S.2 o c) g i) : jcQl ((jaUL S o c i (g i)).2 o c) g (i + 1) := fun j hj => by
  rw [jaUL_at]
  by_cases q : j = i
  · rw [q]; exact if_pos rfl
  · show (if j = i then _ else _) = _
    rw [if_neg q]
    exact h j (by omega)
theorem sp_Wo_copyFrom {D : Nat} (hD : 1 ≤ D) {kk : jaT → Prop} {σ : jaT} {S T : jaS} {k k1 : Nat} (hk : k1 ≠ k) (hT : σ k1 = T) (hb : ∀ c, c < 3 → T.1 34 0 c = 0 ∨ T.1 34 0 c = 1)
    (h : ∀ S', jcG [30, 31, 32, 33, 34] S S' → jcQ (S'.1 30 0) (T.1 30 0) 5 → jcQ (S'.1 31 0) (T.1 31 0) 10 → jcQ (S'.1 32 0) (T.1 32 0) 10 → jcQ (S'.1 33 0) (T.1 33 0) 3 → jcQ (S'.1 34 0) (T.1 34 0) 3 → jcQl (S'.2 35 0) (T.2 35 0) 16 → kk (jaU σ k S')) :
    jaDe D jy_Wo_copyFrom [jcWo k, jcWo k1] (jaU σ k S) (jaKv kk) := by
  obtain ⟨D, rfl, hD⟩ := jaSuc hD
  apply js_Wo_copyFrom
  simp (disch := first | omega | decide) only [jaU_eq, jaU_U, nI_add, pk_mul, jaIx_nI, vp_inT, true_and, and_true, ↓jaO0, ↓jaO1, nI_z, nI_z2, nI_z3, nI_z4, nI_z5, nI_lt', nI_le', nI_eq', jaUI_at, jaPt_eq, jaPt_ne, jaUI_o, jaUI_2, jaUL_at, jaUL_o, jaUL_1, jaB_z, jaB_1, ↓jaB_01, Classical.not_not, and_self, true_or, or_true, nI_11, Nat.reduceEqDiff, Nat.reduceAdd, Nat.reduceMul, Nat.add_zero, Nat.zero_add, Nat.mul_zero, not_true_eq_false, not_false_eq_true, false_implies, true_implies, jaU_ne hk, hT]
  refine jaFor (C := fun i => ∀ S', jcG [30, 31, 32, 33, 34] S S' → jcQ (S'.1 30 0) (T.1 30 0) 5 → jcQ (S'.1 31 0) (T.1 31 0) i → jcQ (S'.1 32 0) (T.1 32 0) i → jc_Wo_copyFrom_1 D kk k k1 (nI i) (jaU σ k S')) (N := 10) ?_ (fun i hi ih => ?_) _ (((((jcG.rfl.ui (by decide)).ui (by decide)).ui (by decide)).ui (by decide)).ui (by decide)) jcQ_0.ui.ui.ui.ui.ui jcQ_0 jcQ_0
  · intro S' g a0 a1 a2
    apply jb_Wo_copyFrom_1
    simp (disch := first | omega | decide) only [jaU_eq, jaU_U, nI_add, pk_mul, jaIx_nI, vp_inT, true_and, and_true, ↓jaO0, ↓jaO1, nI_z, nI_z2, nI_z3, nI_z4, nI_z5, nI_lt', nI_le', nI_eq', jaUI_at, jaPt_eq, jaPt_ne, jaUI_o, jaUI_2, jaUL_at, jaUL_o, jaUL_1, jaB_z, jaB_1, ↓jaB_01, Classical.not_not, and_self, true_or, or_true, nI_11, Nat.reduceEqDiff, Nat.reduceAdd, Nat.reduceMul, Nat.add_zero, Nat.zero_add, Nat.mul_zero, not_true_eq_false, not_false_eq_true, false_implies, true_implies]
    refine ⟨fun _ => ?_, fun q => absurd (by omega) q⟩
    refine jaFor (C := fun i => ∀ S', jcG [30, 31, 32, 33, 34] S S' → jcQ (S'.1 30 0) (T.1 30 0) 5 → jcQ (S'.1 31 0) (T.1 31 0) 10 → jcQ (S'.1 32 0) (T.1 32 0) 10 → jcQ (S'.1 33 0) (T.1 33 0) i → jcQ (S'.1 34 0) (T.1 34 0) i → jc_Wo_copyFrom_3 D kk k k1 (nI i) (jaU σ k S')) (N := 3) ?_ (fun i hi ih => ?_) S' g a0 a1 a2 jcQ_0 jcQ_0
    · intro S' g a0 a1 a2 a3 a4
      apply jb_Wo_copyFrom_3
      simp (disch := first | omega | decide) only [jaU_eq, jaU_U, nI_add, pk_mul, jaIx_nI, vp_inT, true_and, and_true, ↓jaO0, ↓jaO1, nI_z, nI_z2, nI_z3, nI_z4, nI_z5, nI_lt', nI_le', nI_eq', jaUI_at, jaPt_eq, jaPt_ne, jaUI_o, jaUI_2, jaUL_at, jaUL_o, jaUL_1, jaB_z, jaB_1, ↓jaB_01, Classical.not_not, and_self, true_or, or_true, nI_11, Nat.reduceEqDiff, Nat.reduceAdd, Nat.reduceMul, Nat.add_zero, Nat.zero_add, Nat.mul_zero, not_true_eq_false, not_false_eq_true, false_implies, true_implies]
      refine ⟨fun _ => ?_, fun q => absurd (by omega) q⟩
      refine jaFor (C := fun i => ∀ S', jcG [30, 31, 32, 33, 34] S S' → jcQ (S'.1 30 0) (T.1 30 0) 5 → jcQ (S'.1 31 0) (T.1 31 0) 10 → jcQ (S'.1 32 0) (T.1 32 0) 10 → jcQ (S'.1 33 0) (T.1 33 0) 3 → jcQ (S'.1 34 0) (T.1 34 0) 3 → jcQl (S'.2 35 0) (T.2 35 0) i → jc_Wo_copyFrom_5 D kk k k1 (nI i) (jaU σ k S')) (N := 16) ?_ (fun i hi ih => ?_) S' g a0 a1 a2 a3 a4 (fun _ q => absurd q (by omega))
      · intro S' g a0 a1 a2 a3 a4 a5
        apply jb_Wo_copyFrom_5
        simp (disch := first | omega | decide) only [jaU_eq, jaU_U, nI_add, pk_mul, jaIx_nI, vp_inT, true_and, and_true, ↓jaO0, ↓jaO1, nI_z, nI_z2, nI_z3, nI_z4, nI_z5, nI_lt', nI_le', nI_eq', jaUI_at, jaPt_eq, jaPt_ne, jaUI_o, jaUI_2, jaUL_at, jaUL_o, jaUL_1, jaB_z, jaB_1, ↓jaB_01, Classical.not_not, and_self, true_or, or_true, nI_11, Nat.reduceEqDiff, Nat.reduceAdd, Nat.reduceMul, Nat.add_zero, Nat.zero_add, Nat.mul_zero, not_true_eq_false, not_false_eq_true, false_implies, true_implies]
        refine ⟨fun _ => ?_, fun q => absurd (by omega) q⟩
        exact h S' g a0 a1 a2 a3 a4 a5
      · intro S' g a0 a1 a2 a3 a4 a5
        apply jb_Wo_copyFrom_5
        simp (disch := first | omega | decide) only [jaU_eq, jaU_U, nI_add, pk_mul, jaIx_nI, vp_inT, true_and, and_true, ↓jaO0, ↓jaO1, nI_z, nI_z2, nI_z3, nI_z4, nI_z5, nI_lt', nI_le', nI_eq', jaUI_at, jaPt_eq, jaPt_ne, jaUI_o, jaUI_2, jaUL_at, jaUL_o, jaUL_1, jaB_z, jaB_1, ↓jaB_01, Classical.not_not, and_self, true_or, or_true, nI_11, Nat.reduceEqDiff, Nat.reduceAdd, Nat.reduceMul, Nat.add_zero, Nat.zero_add, Nat.mul_zero, not_true_eq_false, not_false_eq_true, false_implies, true_implies, jaU_ne hk, hT]
        refine ⟨fun q => absurd q (by omega), fun _ => ?_⟩
        exact ih _ g.ul a0 a1 a2 a3 a4 a5.ui
    · intro S' g a0 a1 a2 a3 a4
      apply jb_Wo_copyFrom_3
      simp (disch := first | omega | decide) only [jaU_eq, jaU_U, nI_add, pk_mul, jaIx_nI, vp_inT, true_and, and_true, ↓jaO0, ↓jaO1, nI_z, nI_z2, nI_z3, nI_z4, nI_z5, nI_lt', nI_le', nI_eq', jaUI_at, jaPt_eq, jaPt_ne, jaUI_o, jaUI_2, jaUL_at, jaUL_o, jaUL_1, jaB_z, jaB_1, ↓jaB_01, Classical.not_not, and_self, true_or, or_true, nI_11, Nat.reduceEqDiff, Nat.reduceAdd, Nat.reduceMul, Nat.add_zero, Nat.zero_add, Nat.mul_zero, not_true_eq_false, not_false_eq_true, false_implies, true_implies, jaU_ne hk, hT, hb i hi]
      refine ⟨fun q => absurd q (by omega), fun _ => ?_⟩
      exact ih _ ((g.ui (by decide)).ui (by decide)) ((a0.uo (by decide)).uo (by decide)) ((a1.uo (by decide)).uo (by decide)) ((a2.uo (by decide)).uo (by decide)) (a3.ui.uo (by decide)) (a4.uo (by decide)).ui
  · intro S' g a0 a1 a2
    apply jb_Wo_copyFrom_1
    simp (disch := first | omega | decide) only [jaU_eq, jaU_U, nI_add, pk_mul, jaIx_nI, vp_inT, true_and, and_true, ↓jaO0, ↓jaO1, nI_z, nI_z2, nI_z3, nI_z4, nI_z5, nI_lt', nI_le', nI_eq', jaUI_at, jaPt_eq, jaPt_ne, jaUI_o, jaUI_2, jaUL_at, jaUL_o, jaUL_1, jaB_z, jaB_1, ↓jaB_01, Classical.not_not, and_self, true_or, or_true, nI_11, Nat.reduceEqDiff, Nat.reduceAdd, Nat.reduceMul, Nat.add_zero, Nat.zero_add, Nat.mul_zero, not_true_eq_false, not_false_eq_true, false_implies, true_implies, jaU_ne hk, hT]
    refine ⟨fun q => absurd q (by omega), fun _ => ?_⟩
    exact ih _ ((g.ui (by decide)).ui (by decide)) ((a0.uo (by decide)).uo (by decide)) (a1.ui.uo (by decide)) (a2.uo (by decide)).ui
theorem jcQ.cp {f g : jvA} {w n : Nat} (h : jcQ f g (w * n)) : jcQ (jvCp f (w * n) g (w * n) w) g (w * (n + 1)) := fun j hj => by
  rw [Nat.mul_succ] at hj
  by_cases q : j < w * n
  · rw [jvCp_out (by omega)]
    exact h j q
  · have := jvCp_in (f := f) (g := g) (a := w * n) (b := w * n) (n := w) (j := j - w * n) (by omega)
    rwa [show w * n + (j - w * n) = j by omega] at this
theorem jcQ.pt {f g : jvA} {i : Nat} (h : jcQ f g i) : jcQ (jaPt f i (g i)) g (i + 1) := fun j hj => by
  by_cases q : j = i
  · rw [q, jaPt_eq]
  · rw [jaPt_ne q]
    exact h j (by omega)
theorem sp_Sc_copyFrom {D : Nat} (hD : 2 ≤ D) {kk : jaT → Prop} {σ : jaT} {S T : jaS} {k k1 m : Nat} (hk : k1 ≠ k) (hT : σ k1 = T) (hm : T.1 54 0 0 = nI m) (h24 : m ≤ 24)
    (h : ∀ S', jcG [54, 55, 56, 57, 58, 59] S S' → S'.2 = S.2 → S'.1 54 0 0 = nI m → jcQ (S'.1 55 0) (T.1 55 0) m → jcQ (S'.1 56 0) (T.1 56 0) m → jcQ (S'.1 57 0) (T.1 57 0) m → jcQ (S'.1 58 0) (T.1 58 0) (4 * m) → jcQ (S'.1 59 0) (T.1 59 0) (42 * m) → kk (jaU σ k S')) :
    jaDe D jy_Sc_copyFrom [jcSc k, jcSc k1] (jaU σ k S) (jaKv kk) := by
  obtain ⟨D, rfl, hD⟩ := jaSuc hD
  apply js_Sc_copyFrom
  simp (disch := first | omega | decide) only [jaU_eq, jaU_U, nI_add, pk_mul, jaIx_nI, vp_inT, true_and, and_true, ↓jaO0, ↓jaO1, nI_z, nI_z2, nI_z3, nI_z4, nI_z5, nI_lt', nI_le', nI_eq', jaUI_at, jaPt_eq, jaPt_ne, jaUI_o, jaUI_2, jaUL_at, jaUL_o, jaUL_1, jaB_z, jaB_1, ↓jaB_01, Classical.not_not, and_self, true_or, or_true, nI_11, Nat.reduceEqDiff, Nat.reduceAdd, Nat.reduceMul, Nat.add_zero, Nat.zero_add, Nat.mul_zero, not_true_eq_false, not_false_eq_true, false_implies, true_implies, jaU_ne hk, hT, hm]
  refine jaFor (C := fun n => ∀ S', jcG [54, 55, 56, 57, 58, 59] S S' → S'.2 = S.2 → S'.1 54 0 0 = nI m → jcQ (S'.1 55 0) (T.1 55 0) n → jcQ (S'.1 56 0) (T.1 56 0) n → jcQ (S'.1 57 0) (T.1 57 0) n → jcQ (S'.1 58 0) (T.1 58 0) (4 * n) → jcQ (S'.1 59 0) (T.1 59 0) (42 * n) → jc_Sc_copyFrom_1 D kk k k1 (nI n) (jaU σ k S')) (N := m) ?_ (fun n hn ih => ?_) _ (jcG.rfl.ui (by decide)) rfl (by rw [jaUI_at, jaPt_eq]) jcQ_0 jcQ_0 jcQ_0 jcQ_0 jcQ_0
  · intro S' g g2 a0 a1 a2 a3 a4 a5
    apply jb_Sc_copyFrom_1
    simp (disch := first | omega | decide) only [jaU_eq, jaU_U, nI_add, pk_mul, jaIx_nI, vp_inT, true_and, and_true, ↓jaO0, ↓jaO1, nI_z, nI_z2, nI_z3, nI_z4, nI_z5, nI_lt', nI_le', nI_eq', jaUI_at, jaPt_eq, jaPt_ne, jaUI_o, jaUI_2, jaUL_at, jaUL_o, jaUL_1, jaB_z, jaB_1, ↓jaB_01, Classical.not_not, and_self, true_or, or_true, nI_11, Nat.reduceEqDiff, Nat.reduceAdd, Nat.reduceMul, Nat.add_zero, Nat.zero_add, Nat.mul_zero, not_true_eq_false, not_false_eq_true, false_implies, true_implies, a0]
    refine ⟨fun _ => ?_, fun q => absurd (by omega) q⟩
    exact h S' g g2 a0 a1 a2 a3 a4 a5
  · intro S' g g2 a0 a1 a2 a3 a4 a5
    apply jb_Sc_copyFrom_1
    simp (disch := first | omega | decide) only [jaU_eq, jaU_U, nI_add, pk_mul, jaIx_nI, vp_inT, true_and, and_true, ↓jaO0, ↓jaO1, nI_z, nI_z2, nI_z3, nI_z4, nI_z5, nI_lt', nI_le', nI_eq', jaUI_at, jaPt_eq, jaPt_ne, jaUI_o, jaUI_2, jaUL_at, jaUL_o, jaUL_1, jaB_z, jaB_1, ↓jaB_01, Classical.not_not, and_self, true_or, or_true, nI_11, Nat.reduceEqDiff, Nat.reduceAdd, Nat.reduceMul, Nat.add_zero, Nat.zero_add, Nat.mul_zero, not_true_eq_false, not_false_eq_true, false_implies, true_implies, a0]
    refine ⟨fun q => absurd q (by omega), fun _ => ?_⟩
    refine sp_Sc_copyOne_x (by omega) hk (by omega) (by omega) (fun S2 f b1 b2 b3 b4 b5 => ?_)
    rw [hT] at b1 b2 b3 b4 b5
    refine ih S2 (g.trans f.g (fun _ q => q) (by decide)) (f.2.trans g2) (by rw [f.s 54 (by decide)]; exact a0) (by rw [b1]; exact a1.pt) (by rw [b2]; exact a2.pt) (by rw [b3]; exact a3.pt) (by rw [b4]; exact a4.cp) (by rw [b5]; exact a5.cp)
theorem sp_En_copyFrom {D : Nat} (hD : 1 ≤ D) {kk : jaT → Prop} {σ : jaT} {S T : jaS} {k k1 m n : Nat} (hk : k1 ≠ k) (hT : σ k1 = T) (hm : T.1 60 0 0 = nI m) (hm6 : m ≤ 64) (hn : T.1 60 0 1 = nI n) (hn4 : n ≤ 40) (hb4 : ∀ id, id < m → T.1 64 0 id = 0 ∨ T.1 64 0 id = 1) (hb5 : ∀ id, id < m → T.1 65 0 id = 0 ∨ T.1 65 0 id = 1)
    (h : ∀ S', jcG [60, 61, 62, 63, 64, 65, 66, 67, 68] S S' → S'.2 = S.2 → S'.1 60 0 0 = nI m → S'.1 60 0 1 = nI n → jcQ (S'.1 61 0) (T.1 61 0) m → jcQ (S'.1 62 0) (T.1 62 0) m → jcQ (S'.1 63 0) (T.1 63 0) m → jcQ (S'.1 64 0) (T.1 64 0) m → jcQ (S'.1 65 0) (T.1 65 0) m → jcQ (S'.1 66 0) (T.1 66 0) m → jcQ (S'.1 67 0) (T.1 67 0) (4 * m) → jcQ (S'.1 68 0) (T.1 68 0) n → kk (jaU σ k S')) :
    jaDe D jy_En_copyFrom [jcEn k, jcEn k1] (jaU σ k S) (jaKv kk) := by
  obtain ⟨D, rfl, hD⟩ := jaSuc hD
  apply js_En_copyFrom
  simp (disch := first | omega | decide) only [jaU_eq, jaU_U, nI_add, pk_mul, jaIx_nI, vp_inT, true_and, and_true, ↓jaO0, ↓jaO1, nI_z, nI_z2, nI_z3, nI_z4, nI_z5, nI_lt', nI_le', nI_eq', jaUI_at, jaPt_eq, jaPt_ne, jaUI_o, jaUI_2, jaUL_at, jaUL_o, jaUL_1, jaB_z, jaB_1, ↓jaB_01, Classical.not_not, and_self, true_or, or_true, nI_11, Nat.reduceEqDiff, Nat.reduceAdd, Nat.reduceMul, Nat.add_zero, Nat.zero_add, Nat.mul_zero, not_true_eq_false, not_false_eq_true, false_implies, true_implies, jaU_ne hk, hT, hm, hn]
  refine jaFor (C := fun i => ∀ S', jcG [60, 61, 62, 63, 64, 65, 66, 67, 68] S S' → S'.2 = S.2 → S'.1 60 0 0 = nI m → S'.1 60 0 1 = nI n → jcQ (S'.1 61 0) (T.1 61 0) i → jcQ (S'.1 62 0) (T.1 62 0) i → jcQ (S'.1 63 0) (T.1 63 0) i → jcQ (S'.1 64 0) (T.1 64 0) i → jcQ (S'.1 65 0) (T.1 65 0) i → jcQ (S'.1 66 0) (T.1 66 0) i → jc_En_copyFrom_1 D kk k k1 (nI i) (jaU σ k S')) (N := m) ?_ (fun i hi ih => ?_) _ ((jcG.rfl.ui (by decide)).ui (by decide)) rfl (by rw [jaUI_at, jaPt_ne (by decide), jaUI_at, jaPt_eq]) (by rw [jaUI_at, jaPt_eq]) jcQ_0 jcQ_0 jcQ_0 jcQ_0 jcQ_0 jcQ_0
  · intro S' g g2 a0 a0' a1 a2 a3 a4 a5 a6
    apply jb_En_copyFrom_1
    simp (disch := first | omega | decide) only [jaU_eq, jaU_U, nI_add, pk_mul, jaIx_nI, vp_inT, true_and, and_true, ↓jaO0, ↓jaO1, nI_z, nI_z2, nI_z3, nI_z4, nI_z5, nI_lt', nI_le', nI_eq', jaUI_at, jaPt_eq, jaPt_ne, jaUI_o, jaUI_2, jaUL_at, jaUL_o, jaUL_1, jaB_z, jaB_1, ↓jaB_01, Classical.not_not, and_self, true_or, or_true, nI_11, Nat.reduceEqDiff, Nat.reduceAdd, Nat.reduceMul, Nat.add_zero, Nat.zero_add, Nat.mul_zero, not_true_eq_false, not_false_eq_true, false_implies, true_implies, a0]
    refine ⟨fun _ => ?_, fun q => absurd (by omega) q⟩
    refine jaFor (C := fun i => ∀ S', jcG [60, 61, 62, 63, 64, 65, 66, 67, 68] S S' → S'.2 = S.2 → S'.1 60 0 0 = nI m → S'.1 60 0 1 = nI n → jcQ (S'.1 61 0) (T.1 61 0) m → jcQ (S'.1 62 0) (T.1 62 0) m → jcQ (S'.1 63 0) (T.1 63 0) m → jcQ (S'.1 64 0) (T.1 64 0) m → jcQ (S'.1 65 0) (T.1 65 0) m → jcQ (S'.1 66 0) (T.1 66 0) m → jcQ (S'.1 67 0) (T.1 67 0) i → jc_En_copyFrom_3 D kk k k1 (nI i) (jaU σ k S')) (N := 4 * m) ?_ (fun i hi ih => ?_) S' g g2 a0 a0' a1 a2 a3 a4 a5 a6 jcQ_0
    · intro S' g g2 a0 a0' a1 a2 a3 a4 a5 a6 a7
      apply jb_En_copyFrom_3
      simp (disch := first | omega | decide) only [jaU_eq, jaU_U, nI_add, pk_mul, jaIx_nI, vp_inT, true_and, and_true, ↓jaO0, ↓jaO1, nI_z, nI_z2, nI_z3, nI_z4, nI_z5, nI_lt', nI_le', nI_eq', jaUI_at, jaPt_eq, jaPt_ne, jaUI_o, jaUI_2, jaUL_at, jaUL_o, jaUL_1, jaB_z, jaB_1, ↓jaB_01, Classical.not_not, and_self, true_or, or_true, nI_11, Nat.reduceEqDiff, Nat.reduceAdd, Nat.reduceMul, Nat.add_zero, Nat.zero_add, Nat.mul_zero, not_true_eq_false, not_false_eq_true, false_implies, true_implies, a0]
      refine ⟨fun _ => ?_, fun q => absurd (by omega) q⟩
      refine jaFor (C := fun i => ∀ S', jcG [60, 61, 62, 63, 64, 65, 66, 67, 68] S S' → S'.2 = S.2 → S'.1 60 0 0 = nI m → S'.1 60 0 1 = nI n → jcQ (S'.1 61 0) (T.1 61 0) m → jcQ (S'.1 62 0) (T.1 62 0) m → jcQ (S'.1 63 0) (T.1 63 0) m → jcQ (S'.1 64 0) (T.1 64 0) m → jcQ (S'.1 65 0) (T.1 65 0) m → jcQ (S'.1 66 0) (T.1 66 0) m → jcQ (S'.1 67 0) (T.1 67 0) (4 * m) → jcQ (S'.1 68 0) (T.1 68 0) i → jc_En_copyFrom_5 D kk k k1 (nI i) (jaU σ k S')) (N := n) ?_ (fun i hi ih => ?_) S' g g2 a0 a0' a1 a2 a3 a4 a5 a6 a7 jcQ_0
      · intro S' g g2 a0 a0' a1 a2 a3 a4 a5 a6 a7 a8
        apply jb_En_copyFrom_5
        simp (disch := first | omega | decide) only [jaU_eq, jaU_U, nI_add, pk_mul, jaIx_nI, vp_inT, true_and, and_true, ↓jaO0, ↓jaO1, nI_z, nI_z2, nI_z3, nI_z4, nI_z5, nI_lt', nI_le', nI_eq', jaUI_at, jaPt_eq, jaPt_ne, jaUI_o, jaUI_2, jaUL_at, jaUL_o, jaUL_1, jaB_z, jaB_1, ↓jaB_01, Classical.not_not, and_self, true_or, or_true, nI_11, Nat.reduceEqDiff, Nat.reduceAdd, Nat.reduceMul, Nat.add_zero, Nat.zero_add, Nat.mul_zero, not_true_eq_false, not_false_eq_true, false_implies, true_implies, a0']
        refine ⟨fun _ => ?_, fun q => absurd (by omega) q⟩
        exact h S' g g2 a0 a0' a1 a2 a3 a4 a5 a6 a7 a8
      · intro S' g g2 a0 a0' a1 a2 a3 a4 a5 a6 a7 a8
        apply jb_En_copyFrom_5
        simp (disch := first | omega | decide) only [jaU_eq, jaU_U, nI_add, pk_mul, jaIx_nI, vp_inT, true_and, and_true, ↓jaO0, ↓jaO1, nI_z, nI_z2, nI_z3, nI_z4, nI_z5, nI_lt', nI_le', nI_eq', jaUI_at, jaPt_eq, jaPt_ne, jaUI_o, jaUI_2, jaUL_at, jaUL_o, jaUL_1, jaB_z, jaB_1, ↓jaB_01, Classical.not_not, and_self, true_or, or_true, nI_11, Nat.reduceEqDiff, Nat.reduceAdd, Nat.reduceMul, Nat.add_zero, Nat.zero_add, Nat.mul_zero, not_true_eq_false, not_false_eq_true, false_implies, true_implies, a0', jaU_ne hk, hT]
        refine ⟨fun q => absurd q (by omega), fun _ => ?_⟩
        exact ih _ (g.ui (by decide)) g2 (by rw [jaUI_o (by decide)]; exact a0) (by rw [jaUI_o (by decide)]; exact a0') (a1.uo (by decide)) (a2.uo (by decide)) (a3.uo (by decide)) (a4.uo (by decide)) (a5.uo (by decide)) (a6.uo (by decide)) (a7.uo (by decide)) a8.ui
    · intro S' g g2 a0 a0' a1 a2 a3 a4 a5 a6 a7
      apply jb_En_copyFrom_3
      simp (disch := first | omega | decide) only [jaU_eq, jaU_U, nI_add, pk_mul, jaIx_nI, vp_inT, true_and, and_true, ↓jaO0, ↓jaO1, nI_z, nI_z2, nI_z3, nI_z4, nI_z5, nI_lt', nI_le', nI_eq', jaUI_at, jaPt_eq, jaPt_ne, jaUI_o, jaUI_2, jaUL_at, jaUL_o, jaUL_1, jaB_z, jaB_1, ↓jaB_01, Classical.not_not, and_self, true_or, or_true, nI_11, Nat.reduceEqDiff, Nat.reduceAdd, Nat.reduceMul, Nat.add_zero, Nat.zero_add, Nat.mul_zero, not_true_eq_false, not_false_eq_true, false_implies, true_implies, a0, jaU_ne hk, hT]
      refine ⟨fun q => absurd q (by omega), fun _ => ?_⟩
      exact ih _ (g.ui (by decide)) g2 (by rw [jaUI_o (by decide)]; exact a0) (by rw [jaUI_o (by decide)]; exact a0') (a1.uo (by decide)) (a2.uo (by decide)) (a3.uo (by decide)) (a4.uo (by decide)) (a5.uo (by decide)) (a6.uo (by decide)) a7.ui
  · intro S' g g2 a0 a0' a1 a2 a3 a4 a5 a6
    apply jb_En_copyFrom_1
    simp (disch := first | omega | decide) only [jaU_eq, jaU_U, nI_add, pk_mul, jaIx_nI, vp_inT, true_and, and_true, ↓jaO0, ↓jaO1, nI_z, nI_z2, nI_z3, nI_z4, nI_z5, nI_lt', nI_le', nI_eq', jaUI_at, jaPt_eq, jaPt_ne, jaUI_o, jaUI_2, jaUL_at, jaUL_o, jaUL_1, jaB_z, jaB_1, ↓jaB_01, Classical.not_not, and_self, true_or, or_true, nI_11, Nat.reduceEqDiff, Nat.reduceAdd, Nat.reduceMul, Nat.add_zero, Nat.zero_add, Nat.mul_zero, not_true_eq_false, not_false_eq_true, false_implies, true_implies, a0, jaU_ne hk, hT, hb4 i hi, hb5 i hi]
    refine ⟨fun q => absurd q (by omega), fun _ => ?_⟩
    exact ih _ ((((((g.ui (by decide)).ui (by decide)).ui (by decide)).ui (by decide)).ui (by decide)).ui (by decide)) g2 (by simp (disch := first | omega | decide) only [jaU_eq, jaU_U, nI_add, pk_mul, jaIx_nI, vp_inT, true_and, and_true, ↓jaO0, ↓jaO1, nI_z, nI_z2, nI_z3, nI_z4, nI_z5, nI_lt', nI_le', nI_eq', jaUI_at, jaPt_eq, jaPt_ne, jaUI_o, jaUI_2, jaUL_at, jaUL_o, jaUL_1, jaB_z, jaB_1, ↓jaB_01, Classical.not_not, and_self, true_or, or_true, nI_11, Nat.reduceEqDiff, Nat.reduceAdd, Nat.reduceMul, Nat.add_zero, Nat.zero_add, Nat.mul_zero, not_true_eq_false, not_false_eq_true, false_implies, true_implies, a0]) (by simp (disch := first | omega | decide) only [jaU_eq, jaU_U, nI_add, pk_mul, jaIx_nI, vp_inT, true_and, and_true, ↓jaO0, ↓jaO1, nI_z, nI_z2, nI_z3, nI_z4, nI_z5, nI_lt', nI_le', nI_eq', jaUI_at, jaPt_eq, jaPt_ne, jaUI_o, jaUI_2, jaUL_at, jaUL_o, jaUL_1, jaB_z, jaB_1, ↓jaB_01, Classical.not_not, and_self, true_or, or_true, nI_11, Nat.reduceEqDiff, Nat.reduceAdd, Nat.reduceMul, Nat.add_zero, Nat.zero_add, Nat.mul_zero, not_true_eq_false, not_false_eq_true, false_implies, true_implies, a0']) (((((a1.ui.uo (by decide)).uo (by decide)).uo (by decide)).uo (by decide)).uo (by decide)) (((((a2.uo (by decide)).ui.uo (by decide)).uo (by decide)).uo (by decide)).uo (by decide)) (((((a3.uo (by decide)).uo (by decide)).ui.uo (by decide)).uo (by decide)).uo (by decide)) (((((a4.uo (by decide)).uo (by decide)).uo (by decide)).ui.uo (by decide)).uo (by decide)) (((((a5.uo (by decide)).uo (by decide)).uo (by decide)).uo (by decide)).ui.uo (by decide)) (((((a6.uo (by decide)).uo (by decide)).uo (by decide)).uo (by decide)).uo (by decide)).ui
end
