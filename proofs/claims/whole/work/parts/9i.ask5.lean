section
/-! questions, on: ready, arrived -/
theorem jf_ready {x1 x2 : Int32} : jFc jy_A_ready jy_M_ready [.inl x1, .inl x2] := by
  intro σ hI
  have hR := hI.R
  have hW := hI.W
  have hI0 := jI_0 (v := nI 0) hI
  generalize hs : (σ 20).1 72 0 = s at *
  generalize hd : (σ 20).1 75 0 = d at *
  generalize he : (σ 20).1 76 0 = e at *
  have s0 : (jaUI (σ 20) 70 0 0 (nI 0)).1 72 0 = s := by simp (disch := first | omega | decide) only [jaU_eq, jaU_U, nI_add, pk_mul, jaIx_nI, vp_inT, true_and, and_true, ↓jaO0, ↓jaO1, nI_z, nI_z2, nI_z3, nI_z4, nI_z5, nI_lt', nI_le', nI_eq', jaUI_at, jaPt_eq, jaPt_ne, jaUI_o, jaUI_2, jaUL_at, jaUL_o, jaUL_1, jaB_z, jaB_1, ↓jaB_01, Classical.not_not, and_self, true_or, or_true, nI_11, Nat.reduceEqDiff, Nat.reduceAdd, Nat.reduceMul, Nat.add_zero, Nat.zero_add, Nat.mul_zero, not_true_eq_false, not_false_eq_true, false_implies, true_implies, hs]
  have d0 : (jaUI (σ 20) 70 0 0 (nI 0)).1 75 0 = d := by simp (disch := first | omega | decide) only [jaU_eq, jaU_U, nI_add, pk_mul, jaIx_nI, vp_inT, true_and, and_true, ↓jaO0, ↓jaO1, nI_z, nI_z2, nI_z3, nI_z4, nI_z5, nI_lt', nI_le', nI_eq', jaUI_at, jaPt_eq, jaPt_ne, jaUI_o, jaUI_2, jaUL_at, jaUL_o, jaUL_1, jaB_z, jaB_1, ↓jaB_01, Classical.not_not, and_self, true_or, or_true, nI_11, Nat.reduceEqDiff, Nat.reduceAdd, Nat.reduceMul, Nat.add_zero, Nat.zero_add, Nat.mul_zero, not_true_eq_false, not_false_eq_true, false_implies, true_implies, hd]
  have e0 : (jaUI (σ 20) 70 0 0 (nI 0)).1 76 0 = e := by simp (disch := first | omega | decide) only [jaU_eq, jaU_U, nI_add, pk_mul, jaIx_nI, vp_inT, true_and, and_true, ↓jaO0, ↓jaO1, nI_z, nI_z2, nI_z3, nI_z4, nI_z5, nI_lt', nI_le', nI_eq', jaUI_at, jaPt_eq, jaPt_ne, jaUI_o, jaUI_2, jaUL_at, jaUL_o, jaUL_1, jaB_z, jaB_1, ↓jaB_01, Classical.not_not, and_self, true_or, or_true, nI_11, Nat.reduceEqDiff, Nat.reduceAdd, Nat.reduceMul, Nat.add_zero, Nat.zero_add, Nat.mul_zero, not_true_eq_false, not_false_eq_true, false_implies, true_implies, he]
  generalize hS : jaUI (σ 20) 70 0 0 (nI 0) = S at *
  have hO := hW.o.ord
  have hC := hW.w.2.2.1
  have M0 : (¬ ∃ q, q < jz s 2 ∧ x1 = nI q) → jaDe 12 jy_M_ready [jaMo, .inl x1, .inl x2] σ (jaKi fun b σ2 => (-1 : Int32) = b ∧ jI σ2) := by
    intro c
    apply js_M_ready
    simp only [hS]
    refine sp_M_isCopy (by omega) s0 hC.1 (by omega) ⟨fun z => absurd z (by rwa [jaB_z, Classical.not_not]), fun _ => ⟨trivial, hI0⟩⟩
  apply js_A_ready
  refine sp_A_isCopy (by omega) hR hW ⟨fun z => M0 (by rwa [jaB_z] at z), fun z => ?_⟩
  rw [jaB_z, Classical.not_not] at z
  obtain ⟨c, hc, rfl⟩ := z
  have M1 : ∀ v, v = jvOp (jvNt (jvRdy s e c) x2 (jz s 34) 0 0) (fun r => nI r) → jaDe 12 jy_M_ready [jaMo, .inl (nI c), .inl x2] σ (jaKi fun b σ2 => v = b ∧ jI σ2) := by
    intro v hv
    apply js_M_ready
    simp only [hS]
    refine sp_M_isCopy (by omega) s0 hC.1 (by omega) ?_
    rw [jaB_t ⟨c, hc, rfl⟩]
    refine ⟨fun _ => ?_, fun z => absurd z (by decide)⟩
    have L : ∀ m j n, j + m = jz s 34 → n ≤ j → v = jvOp (jvNt (jvRdy s e c) x2 m j n) (fun r => nI r) → jc_M_ready_2 11 (fun b σ2 => v = b ∧ jI σ2) (nI c) x2 (nI n) (nI j) (jaU σ 20 S) := by
      intro m
      induction m with
      | zero =>
        intro j n hj hn hk
        apply jb_M_ready_2
        simp (disch := first | omega | decide) only [jaU_eq, jaU_U, nI_add, pk_mul, jaIx_nI, vp_inT, true_and, and_true, ↓jaO0, ↓jaO1, nI_z, nI_z2, nI_z3, nI_z4, nI_z5, nI_lt', nI_le', nI_eq', jaUI_at, jaPt_eq, jaPt_ne, jaUI_o, jaUI_2, jaUL_at, jaUL_o, jaUL_1, jaB_z, jaB_1, ↓jaB_01, Classical.not_not, and_self, true_or, or_true, nI_11, Nat.reduceEqDiff, Nat.reduceAdd, Nat.reduceMul, Nat.add_zero, Nat.zero_add, Nat.mul_zero, not_true_eq_false, not_false_eq_true, false_implies, true_implies, s0]
        rw [hO.1]
        exact ⟨fun _ => ⟨hk, hI0⟩, fun z => absurd (by rw [nI_le' (by omega) (by omega)]; omega) z⟩
      | succ m ih =>
        intro j n hj hn hk
        have hjl : j < jz s 34 := by omega
        rw [jvNt] at hk
        apply jb_M_ready_2
        simp (disch := first | omega | decide) only [jaU_eq, jaU_U, nI_add, pk_mul, jaIx_nI, vp_inT, true_and, and_true, ↓jaO0, ↓jaO1, nI_z, nI_z2, nI_z3, nI_z4, nI_z5, nI_lt', nI_le', nI_eq', jaUI_at, jaPt_eq, jaPt_ne, jaUI_o, jaUI_2, jaUL_at, jaUL_o, jaUL_1, jaB_z, jaB_1, ↓jaB_01, Classical.not_not, and_self, true_or, or_true, nI_11, Nat.reduceEqDiff, Nat.reduceAdd, Nat.reduceMul, Nat.add_zero, Nat.zero_add, Nat.mul_zero, not_true_eq_false, not_false_eq_true, false_implies, true_implies, s0]
        rw [hO.1]
        refine ⟨fun z => absurd z (by rw [nI_le' (by omega) (by omega)]; omega), fun _ => sp_M_isReady (by omega) s0 e0 (by omega) (by omega) (fun i hi => hW.o.ids i (by omega)) ⟨fun z => ?_, fun z => ?_⟩⟩
        · rw [jaB_z, Classical.not_not] at z
          rw [jaIf1_t z] at hk
          refine ⟨fun u => ?_, fun u => ?_⟩
          · rw [jaIf1_f u] at hk
            exact ih _ _ (by omega) (by omega) hk
          · rw [jaIf1_t u] at hk
            exact ⟨hk, hI0⟩
        · rw [jaB_z] at z
          rw [jaIf1_f z] at hk
          exact ih _ _ (by omega) (by omega) hk
    exact L _ 0 0 (by omega) (by omega) hv
  refine ⟨fun _ => ?_, fun z => M1 _ ?_⟩
  · refine jaAk (k := 1) (B := σ 1) (P := fun τ => jaDe 32 jy_St_readyPlaces [jcSt 1, .inl (nI c)] τ (jaKl fun r4 σ3 => jc_A_ready_3 32 (fun a σ1 => jaDe 12 jy_M_ready [jaMo, .inl (nI c), .inl x2] σ1 (jaKi fun b σ2 => a = b ∧ jI σ2)) (nI c) x2 r4 (nI 0) (nI 0) σ3)) rfl ?_
    refine sp_St_readyPlaces (by omega) hR hW hc (fun P hP => ?_)
    rw [jaU_self]
    have o60 : (σ 1).1 60 0 1 = nI (jz s 34) := hR.o.2.1.trans hO.1
    have L : ∀ m j n, j + m = jz s 34 → n ≤ j → jvNt (jvRdy s e c) x2 m j n = jvNt (jvRdy s e c) x2 (jz s 34) 0 0 → jc_A_ready_3 32 (fun a σ1 => jaDe 12 jy_M_ready [jaMo, .inl (nI c), .inl x2] σ1 (jaKi fun b σ2 => a = b ∧ jI σ2)) (nI c) x2 P (nI n) (nI j) σ := by
      intro m
      induction m with
      | zero =>
        intro j n hj hn hk
        apply jb_A_ready_3
        rw [o60]
        exact ⟨fun _ => M1 _ (by rw [← hk]; rfl), fun z => absurd (by rw [nI_le' (by omega) (by omega)]; omega) z⟩
      | succ m ih =>
        intro j n hj hn hk
        have hjl : j < jz s 34 := by omega
        rw [jvNt] at hk
        apply jb_A_ready_3
        rw [o60, jaL_bit (by omega)]
        refine ⟨fun z => absurd z (by rw [nI_le' (by omega) (by omega)]; omega), fun _ => ⟨fun z => ?_, fun z => ?_⟩⟩
        · rw [hP j (by omega)] at z
          rw [jaIf1_f (fun u : jvRdy s e c j => z ⟨hjl, u⟩)] at hk
          simp (disch := first | omega | decide) only [jaU_eq, jaU_U, nI_add, pk_mul, jaIx_nI, vp_inT, true_and, and_true, ↓jaO0, ↓jaO1, nI_z, nI_z2, nI_z3, nI_z4, nI_z5, nI_lt', nI_le', nI_eq', jaUI_at, jaPt_eq, jaPt_ne, jaUI_o, jaUI_2, jaUL_at, jaUL_o, jaUL_1, jaB_z, jaB_1, ↓jaB_01, Classical.not_not, and_self, true_or, or_true, nI_11, Nat.reduceEqDiff, Nat.reduceAdd, Nat.reduceMul, Nat.add_zero, Nat.zero_add, Nat.mul_zero, not_true_eq_false, not_false_eq_true, false_implies, true_implies]
          exact ih _ _ (by omega) (by omega) hk
        · have z := ((hP j (by omega)).mp z).2
          rw [jaIf1_t z] at hk
          refine ⟨fun u => ?_, fun u => ?_⟩
          · rw [jaIf1_f u] at hk
            simp (disch := first | omega | decide) only [jaU_eq, jaU_U, nI_add, pk_mul, jaIx_nI, vp_inT, true_and, and_true, ↓jaO0, ↓jaO1, nI_z, nI_z2, nI_z3, nI_z4, nI_z5, nI_lt', nI_le', nI_eq', jaUI_at, jaPt_eq, jaPt_ne, jaUI_o, jaUI_2, jaUL_at, jaUL_o, jaUL_1, jaB_z, jaB_1, ↓jaB_01, Classical.not_not, and_self, true_or, or_true, nI_11, Nat.reduceEqDiff, Nat.reduceAdd, Nat.reduceMul, Nat.add_zero, Nat.zero_add, Nat.mul_zero, not_true_eq_false, not_false_eq_true, false_implies, true_implies]
            exact ih _ _ (by omega) (by omega) hk
          · rw [jaIf1_t u] at hk
            exact M1 _ (by rw [← hk]; rfl)
    exact L _ 0 0 (by omega) (by omega) rfl
  · rw [jvNt_no (by
      rw [Int32.lt_iff_toInt_lt]
      rw [Int32.le_iff_toInt_le] at z
      omega) _ _ _ (by omega)]
    rfl
/-- a count over what is named in a row that grows -/
theorem jvNt_row {p q : Nat → Prop} {t : Int32} {f : Nat → Nat} {N M : Nat} (hf : ∀ i j, i < j → j < M → f i < f j) (hN : ∀ i, i < M → f i < N) (hp : ∀ a, a < N → (p a ↔ ∃ i, i < M ∧ f i = a ∧ q i)) : ∀ m a b n, a + m = N → b ≤ M → (∀ i, i < M → (f i < a ↔ i < b)) → jvNt p t m a n = (jvNt q t (M - b) b n).map f := by
  intro m
  induction m with
  | zero =>
    intro a b n ha hb hi
    have : M - b = 0 := by
      rcases Nat.lt_or_ge b M with z | z
      · have h1 := hN b z
        have h2 := (hi b z).mp (by omega)
        omega
      · omega
    rw [this]
    rfl
  | succ m ih =>
    intro a b n ha hb hi
    rw [jvNt]
    by_cases c : ∃ i, i < M ∧ f i = a
    · obtain ⟨i, i1, i2⟩ := c
      have ib : i = b := by
        have h1 : ¬ i < b := fun z => by
          have := (hi i i1).mpr z
          omega
        rcases Nat.lt_or_ge b i with z | z
        · have h2 := hf b i z i1
          have h3 := (hi b (by omega)).mp (by omega)
          omega
        · omega
      subst ib
      have hpa : p a ↔ q i := by
        rw [hp a (by omega)]
        refine ⟨fun z => ?_, fun z => ⟨i, i1, i2, z⟩⟩
        obtain ⟨j, j1, j2, j3⟩ := z
        have : j = i := by
          rcases Nat.lt_trichotomy i j with z | z | z
          · have := hf i j z j1
            omega
          · exact z.symm
          · have := hf j i z i1
            omega
        rw [← this]
        exact j3
      have hi' : ∀ j, j < M → (f j < a + 1 ↔ j < i + 1) := by
        intro j hj
        refine ⟨fun z => ?_, fun z => ?_⟩
        · rcases Nat.lt_or_ge i j with y | y
          · have := hf i j y hj
            omega
          · omega
        · rcases Nat.lt_or_ge j i with y | y
          · have := hf j i y i1
            omega
          · rw [show j = i by omega, i2]
            omega
      rw [show M - i = (M - (i + 1)) + 1 by omega, jvNt, ih (a + 1) (i + 1) (n + 1) (by omega) (by omega) hi', ih (a + 1) (i + 1) n (by omega) (by omega) hi']
      by_cases y : q i
      · rw [jaIf1_t y, jaIf1_t (hpa.mpr y)]
        by_cases x : nI n = t
        · rw [jaIf1_t x, jaIf1_t x, ← i2]
          rfl
        · rw [jaIf1_f x, jaIf1_f x]
      · rw [jaIf1_f y, jaIf1_f (fun z => y (hpa.mp z))]
    · rw [jaIf1_f (fun z => c (by
        obtain ⟨i, i1, i2, -⟩ := (hp a (by omega)).mp z
        exact ⟨i, i1, i2⟩))]
      refine ih (a + 1) b n (by omega) hb (fun i hi2 => ?_)
      rw [← hi i hi2]
      refine ⟨fun z => ?_, fun z => by omega⟩
      rcases Nat.lt_or_ge (f i) a with y | y
      · exact y
      · exact absurd ⟨i, hi2, by omega⟩ c
set_option maxHeartbeats 1000000 in
theorem jf_arrived {x1 x2 : Int32} : jFc jy_A_arrived jy_M_arrived [.inl x1, .inl x2] := by
  intro σ hI
  have hR := hI.R
  have hW := hI.W
  have hI0 := jI_0 (v := nI 0) hI
  generalize hs : (σ 20).1 72 0 = s at *
  generalize hd : (σ 20).1 75 0 = d at *
  generalize he : (σ 20).1 76 0 = e at *
  have s0 : (jaUI (σ 20) 70 0 0 (nI 0)).1 72 0 = s := by simp (disch := first | omega | decide) only [jaU_eq, jaU_U, nI_add, pk_mul, jaIx_nI, vp_inT, true_and, and_true, ↓jaO0, ↓jaO1, nI_z, nI_z2, nI_z3, nI_z4, nI_z5, nI_lt', nI_le', nI_eq', jaUI_at, jaPt_eq, jaPt_ne, jaUI_o, jaUI_2, jaUL_at, jaUL_o, jaUL_1, jaB_z, jaB_1, ↓jaB_01, Classical.not_not, and_self, true_or, or_true, nI_11, Nat.reduceEqDiff, Nat.reduceAdd, Nat.reduceMul, Nat.add_zero, Nat.zero_add, Nat.mul_zero, not_true_eq_false, not_false_eq_true, false_implies, true_implies, hs]
  have d0 : (jaUI (σ 20) 70 0 0 (nI 0)).1 75 0 = d := by simp (disch := first | omega | decide) only [jaU_eq, jaU_U, nI_add, pk_mul, jaIx_nI, vp_inT, true_and, and_true, ↓jaO0, ↓jaO1, nI_z, nI_z2, nI_z3, nI_z4, nI_z5, nI_lt', nI_le', nI_eq', jaUI_at, jaPt_eq, jaPt_ne, jaUI_o, jaUI_2, jaUL_at, jaUL_o, jaUL_1, jaB_z, jaB_1, ↓jaB_01, Classical.not_not, and_self, true_or, or_true, nI_11, Nat.reduceEqDiff, Nat.reduceAdd, Nat.reduceMul, Nat.add_zero, Nat.zero_add, Nat.mul_zero, not_true_eq_false, not_false_eq_true, false_implies, true_implies, hd]
  have e0 : (jaUI (σ 20) 70 0 0 (nI 0)).1 76 0 = e := by simp (disch := first | omega | decide) only [jaU_eq, jaU_U, nI_add, pk_mul, jaIx_nI, vp_inT, true_and, and_true, ↓jaO0, ↓jaO1, nI_z, nI_z2, nI_z3, nI_z4, nI_z5, nI_lt', nI_le', nI_eq', jaUI_at, jaPt_eq, jaPt_ne, jaUI_o, jaUI_2, jaUL_at, jaUL_o, jaUL_1, jaB_z, jaB_1, ↓jaB_01, Classical.not_not, and_self, true_or, or_true, nI_11, Nat.reduceEqDiff, Nat.reduceAdd, Nat.reduceMul, Nat.add_zero, Nat.zero_add, Nat.mul_zero, not_true_eq_false, not_false_eq_true, false_implies, true_implies, he]
  generalize hS : jaUI (σ 20) 70 0 0 (nI 0) = S at *
  have hO := hW.o.ord
  have hP := hW.o.pool
  have h35 := hW.o.came
  have h0 := hW.w.1
  have M0 : (¬ ∃ q, q < jz s 0 ∧ x1 = nI q) → jaDe 12 jy_M_arrived [jaMo, .inl x1, .inl x2] σ (jaKi fun b σ2 => (-1 : Int32) = b ∧ jI σ2) := by
    intro c
    apply js_M_arrived
    simp only [hS]
    refine sp_M_isSite (by omega) s0 h0.1 (by omega) ⟨fun z => absurd z (by rwa [jaB_z, Classical.not_not]), fun _ => ⟨trivial, hI0⟩⟩
  have e30 : (σ 1).1 30 0 0 = nI (jz s 0) := hR.w.1.1.trans h0.1
  apply js_A_arrived
  rw [e30]
  by_cases c0 : ∃ q, q < jz s 0 ∧ x1 = nI q
  · obtain ⟨x, hx, rfl⟩ := c0
    have M1 : ∀ v, v = jvOp (jvNt (fun i => e (9 * jz s (81 + i) + 1) = nI x) x2 (jz s 35) 0 0) (fun r => e (9 * jz s (81 + r))) → jaDe 12 jy_M_arrived [jaMo, .inl (nI x), .inl x2] σ (jaKi fun b σ2 => v = b ∧ jI σ2) := by
      intro v hv
      apply js_M_arrived
      simp only [hS]
      refine sp_M_isSite (by omega) s0 h0.1 (by omega) ?_
      rw [jaB_t ⟨x, hx, rfl⟩]
      refine ⟨fun _ => ?_, fun z => absurd z (by decide)⟩
      have L : ∀ m j n, j + m = jz s 35 → n ≤ j → v = jvOp (jvNt (fun i => e (9 * jz s (81 + i) + 1) = nI x) x2 m j n) (fun r => e (9 * jz s (81 + r))) → jc_M_arrived_2 11 (fun b σ2 => v = b ∧ jI σ2) (nI x) x2 (nI n) (nI j) (jaU σ 20 S) := by
        intro m
        induction m with
        | zero =>
          intro j n hj hn hk
          apply jb_M_arrived_2
          simp (disch := first | omega | decide) only [jaU_eq, jaU_U, nI_add, pk_mul, jaIx_nI, vp_inT, true_and, and_true, ↓jaO0, ↓jaO1, nI_z, nI_z2, nI_z3, nI_z4, nI_z5, nI_lt', nI_le', nI_eq', jaUI_at, jaPt_eq, jaPt_ne, jaUI_o, jaUI_2, jaUL_at, jaUL_o, jaUL_1, jaB_z, jaB_1, ↓jaB_01, Classical.not_not, and_self, true_or, or_true, nI_11, Nat.reduceEqDiff, Nat.reduceAdd, Nat.reduceMul, Nat.add_zero, Nat.zero_add, Nat.mul_zero, not_true_eq_false, not_false_eq_true, false_implies, true_implies, s0]
          rw [h35.1]
          exact ⟨fun _ => ⟨hk, hI0⟩, fun z => absurd (by rw [nI_le' (by omega) (by omega)]; omega) z⟩
        | succ m ih =>
          intro j n hj hn hk
          have hjl : j < jz s 35 := by omega
          obtain ⟨c1, c2⟩ := hW.o.come hjl
          rw [jvNt] at hk
          apply jb_M_arrived_2
          simp (disch := first | omega | decide) only [jaU_eq, jaU_U, nI_add, pk_mul, jaIx_nI, vp_inT, true_and, and_true, ↓jaO0, ↓jaO1, nI_z, nI_z2, nI_z3, nI_z4, nI_z5, nI_lt', nI_le', nI_eq', jaUI_at, jaPt_eq, jaPt_ne, jaUI_o, jaUI_2, jaUL_at, jaUL_o, jaUL_1, jaB_z, jaB_1, ↓jaB_01, Classical.not_not, and_self, true_or, or_true, nI_11, Nat.reduceEqDiff, Nat.reduceAdd, Nat.reduceMul, Nat.add_zero, Nat.zero_add, Nat.mul_zero, not_true_eq_false, not_false_eq_true, false_implies, true_implies, s0]
          rw [h35.1, c1]
          simp (disch := first | omega | decide) only [jaU_eq, jaU_U, nI_add, pk_mul, jaIx_nI, vp_inT, true_and, and_true, ↓jaO0, ↓jaO1, nI_z, nI_z2, nI_z3, nI_z4, nI_z5, nI_lt', nI_le', nI_eq', jaUI_at, jaPt_eq, jaPt_ne, jaUI_o, jaUI_2, jaUL_at, jaUL_o, jaUL_1, jaB_z, jaB_1, ↓jaB_01, Classical.not_not, and_self, true_or, or_true, nI_11, Nat.reduceEqDiff, Nat.reduceAdd, Nat.reduceMul, Nat.add_zero, Nat.zero_add, Nat.mul_zero, not_true_eq_false, not_false_eq_true, false_implies, true_implies, e0]
          refine ⟨fun z => absurd z (by omega), fun _ => ⟨fun z => ?_, fun z => ?_⟩⟩
          · rw [jaIf1_t z] at hk
            refine ⟨fun u => ?_, fun u => ?_⟩
            · rw [jaIf1_f u] at hk
              exact ih _ _ (by omega) (by omega) hk
            · rw [jaIf1_t u] at hk
              exact ⟨hk, hI0⟩
          · rw [jaIf1_f z] at hk
            exact ih _ _ (by omega) (by omega) hk
      exact L _ 0 0 (by omega) (by omega) hv
    refine ⟨fun z => absurd z (by rw [show (0 : Int32) = nI 0 from rfl, nI_lt' (by omega) (by omega)]; omega), fun _ => ⟨fun z => absurd z (by rw [nI_le' (by omega) (by omega)]; omega), fun _ => ⟨fun _ => ?_, fun z => M1 _ ?_⟩⟩⟩
    · have o60 : (σ 1).1 60 0 0 = nI (jz s 33) := hR.o.1.trans hP.1
      have E := jvNt_row (p := fun id => (σ 1).1 66 0 id = -1 ∧ e (9 * id + 1) = nI x) (q := fun i => e (9 * jz s (81 + i) + 1) = nI x) (t := x2) (f := fun i => jz s (81 + i)) (N := jz s 33) (M := jz s 35) (fun i j h1 h2 => hW.o.2.2.2.2.2.2.2.2.1 i j h1 h2) (fun i hi => (hW.o.come hi).2) (fun a ha => ⟨fun z => by
        obtain ⟨j, j1, j2⟩ := hR.p a ha z.1
        have j2 : jz s (81 + j) = a := j2
        exact ⟨j, j1, j2, by rw [j2]; exact z.2⟩, fun z => by
        obtain ⟨i, i1, i2, i3⟩ := z
        rw [← i2]
        exact ⟨(hR.o.2.2.2 i i1).2, i3⟩⟩) (jz s 33) 0 0 0 (by omega) (by omega) (fun i _ => by omega)
      have L : ∀ m j n, j + m = jz s 33 → n ≤ j → jvNt (fun id => (σ 1).1 66 0 id = -1 ∧ e (9 * id + 1) = nI x) x2 m j n = jvNt (fun id => (σ 1).1 66 0 id = -1 ∧ e (9 * id + 1) = nI x) x2 (jz s 33) 0 0 → jc_A_arrived_3 32 (fun a σ1 => jaDe 12 jy_M_arrived [jaMo, .inl (nI x), .inl x2] σ1 (jaKi fun b σ2 => a = b ∧ jI σ2)) (nI x) x2 (nI n) (nI j) σ := by
        intro m
        induction m with
        | zero =>
          intro j n hj hn hk
          have hk := hk.trans E
          apply jb_A_arrived_3
          rw [o60]
          refine ⟨fun _ => M1 _ ?_, fun z => absurd (by rw [nI_le' (by omega) (by omega)]; omega) z⟩
          cases hy : jvNt (fun i => e (9 * jz s (81 + i) + 1) = nI x) x2 (jz s 35) 0 0 with
          | none => rfl
          | some r =>
            rw [Nat.sub_zero, hy] at hk
            cases hk
        | succ m ih =>
          intro j n hj hn hk
          have hjl : j < jz s 33 := by omega
          rw [jvNt] at hk
          apply jb_A_arrived_3
          rw [o60]
          refine ⟨fun z => absurd z (by rw [nI_le' (by omega) (by omega)]; omega), fun _ => ?_⟩
          refine jaAk (k := 1) (B := σ 1) (P := fun τ => jaDe 32 jy_St_isArrivedAt [jcSt 1, .inl (nI j), .inl (nI x)] τ (jaKi fun r2 σ1 => (r2 = 0 → jc_A_arrived_3 32 (fun a σ1 => jaDe 12 jy_M_arrived [jaMo, .inl (nI x), .inl x2] σ1 (jaKi fun b σ2 => a = b ∧ jI σ2)) (nI x) x2 (nI n) (nI j + nI 1) σ1) ∧ (¬ r2 = 0 → (¬ nI n = x2 → jc_A_arrived_3 32 (fun a σ1 => jaDe 12 jy_M_arrived [jaMo, .inl (nI x), .inl x2] σ1 (jaKi fun b σ2 => a = b ∧ jI σ2)) (nI x) x2 (nI n + nI 1) (nI j + nI 1) σ1) ∧ (nI n = x2 → vp_in (nI j) 64 ∧ jaDe 12 jy_M_arrived [jaMo, .inl (nI x), .inl x2] σ1 (jaKi fun b σ2 => (σ1 1).1 61 0 (jaIx (nI j)) = b ∧ jI σ2))))) rfl ?_
          refine sp_St_isArrivedAt (by omega) hR.e hR.s hW.e (by omega) (by omega) hW.o.many.2 ?_
          rw [jaU_self]
          refine ⟨fun z => ?_, fun z => ?_⟩
          · rw [jaB_z] at z
            rw [jaIf1_f z] at hk
            simp (disch := first | omega | decide) only [jaU_eq, jaU_U, nI_add, pk_mul, jaIx_nI, vp_inT, true_and, and_true, ↓jaO0, ↓jaO1, nI_z, nI_z2, nI_z3, nI_z4, nI_z5, nI_lt', nI_le', nI_eq', jaUI_at, jaPt_eq, jaPt_ne, jaUI_o, jaUI_2, jaUL_at, jaUL_o, jaUL_1, jaB_z, jaB_1, ↓jaB_01, Classical.not_not, and_self, true_or, or_true, nI_11, Nat.reduceEqDiff, Nat.reduceAdd, Nat.reduceMul, Nat.add_zero, Nat.zero_add, Nat.mul_zero, not_true_eq_false, not_false_eq_true, false_implies, true_implies]
            exact ih _ _ (by omega) (by omega) hk
          · rw [jaB_z, Classical.not_not] at z
            rw [jaIf1_t z] at hk
            refine ⟨fun u => ?_, fun u => ?_⟩
            · rw [jaIf1_f u] at hk
              simp (disch := first | omega | decide) only [jaU_eq, jaU_U, nI_add, pk_mul, jaIx_nI, vp_inT, true_and, and_true, ↓jaO0, ↓jaO1, nI_z, nI_z2, nI_z3, nI_z4, nI_z5, nI_lt', nI_le', nI_eq', jaUI_at, jaPt_eq, jaPt_ne, jaUI_o, jaUI_2, jaUL_at, jaUL_o, jaUL_1, jaB_z, jaB_1, ↓jaB_01, Classical.not_not, and_self, true_or, or_true, nI_11, Nat.reduceEqDiff, Nat.reduceAdd, Nat.reduceMul, Nat.add_zero, Nat.zero_add, Nat.mul_zero, not_true_eq_false, not_false_eq_true, false_implies, true_implies]
              exact ih _ _ (by omega) (by omega) hk
            · rw [jaIf1_t u] at hk
              have hk := hk.trans E
              simp (disch := first | omega | decide) only [jaU_eq, jaU_U, nI_add, pk_mul, jaIx_nI, vp_inT, true_and, and_true, ↓jaO0, ↓jaO1, nI_z, nI_z2, nI_z3, nI_z4, nI_z5, nI_lt', nI_le', nI_eq', jaUI_at, jaPt_eq, jaPt_ne, jaUI_o, jaUI_2, jaUL_at, jaUL_o, jaUL_1, jaB_z, jaB_1, ↓jaB_01, Classical.not_not, and_self, true_or, or_true, nI_11, Nat.reduceEqDiff, Nat.reduceAdd, Nat.reduceMul, Nat.add_zero, Nat.zero_add, Nat.mul_zero, not_true_eq_false, not_false_eq_true, false_implies, true_implies]
              refine M1 _ ?_
              have r61 : (σ 1).1 61 0 j = e (9 * j) := (hR.e j hjl).1
              rw [r61]
              cases hy : jvNt (fun i => e (9 * jz s (81 + i) + 1) = nI x) x2 (jz s 35) 0 0 with
              | none =>
                rw [Nat.sub_zero, hy] at hk
                cases hk
              | some r =>
                rw [Nat.sub_zero, hy] at hk
                have hk : j = jz s (81 + r) := Option.some.inj hk
                rw [hk]
                rfl
      exact L _ 0 0 (by omega) (by omega) rfl
    · rw [jvNt_no (by
        rw [Int32.lt_iff_toInt_lt]
        rw [Int32.le_iff_toInt_le] at z
        omega) _ _ _ (by omega)]
      rfl
  · have N := M0 c0
    exact ⟨fun _ => N, fun y => ⟨fun _ => N, fun z => absurd ((jxInC (by omega)).mp ⟨y, z⟩) c0⟩⟩
end
