section
/-! acts, on: ticks, drawn, put -/
theorem jx1N {N : Nat} (hN : N < 1000000) {x : Int32} : (¬ x < nI 1 ∧ ¬ nI N < x) ↔ ∃ q, 1 ≤ q ∧ q ≤ N ∧ x = nI q := by
  constructor
  · rintro ⟨a, b⟩
    have h0 : ¬ x < 0 := fun y => a (by
      rw [Int32.lt_iff_toInt_lt] at y ⊢
      rw [show (nI 1).toInt = 1 by decide]
      rw [show (0 : Int32).toInt = 0 by decide] at y
      omega)
    obtain ⟨q, q1, rfl⟩ := jxOf h0
    rw [nI_lt' (by omega) (by omega)] at a b
    exact ⟨q, by omega, by omega, rfl⟩
  · rintro ⟨q, q1, q2, rfl⟩
    rw [nI_lt' (by omega) (by omega), nI_lt' (by omega) (by omega)]
    omega
theorem jxLe {a b : Int32} : a ≤ b ↔ ¬ b < a := by
  rw [Int32.le_iff_toInt_le, Int32.lt_iff_toInt_lt]
  omega
theorem jf_ticks {x1 : Int32} : jFc jy_A_ticks jy_M_ticks [.inl x1] := by
  intro σ hI
  have hR := hI.R
  have hW := hI.W
  have hI0 := jI_0 (v := nI 0) hI
  have ht := hI.2.1.2.2.1
  obtain ⟨m, q, hm, hq, h9, h8, h33, -, -⟩ := hI.2.2.1
  have hW3 : jW3 (jIx (σ 20)) := hW
  have tt := hW.t
  have e31 : (σ 1).1 40 0 5 = nI (jz ((σ 20).1 72 0) 31) := hR.t.trans tt
  apply js_A_ticks
  by_cases c : ∃ a, 1 ≤ a ∧ a ≤ 60 ∧ x1 = nI a
  · obtain ⟨a, a1, a60, rfl⟩ := c
    refine ⟨fun z => absurd z (by rw [nI_lt' (by omega) (by omega)]; omega), fun _ => ⟨fun _ => ?_, fun z => absurd (by rw [nI_le' (by omega) (by omega)]; omega) z⟩⟩
    have L := sp_St_ticksLeft (D := 32) (σ := σ) (S := σ 1) (k := 1) (kk := fun r2 σ1 => jaDe 32 jy_JM_min [.inl (nI a), .inl r2] σ1 (jaKi fun r4 σ3 => (r4 ≤ 0 → jaDe 12 jy_M_ticks [jaMo, .inl (nI a)] σ3 (jaKi fun b σ2 => r4 = b ∧ jI σ2)) ∧ (¬ r4 ≤ 0 → jaDe 32 jy_A_keepState [jcA] σ3 (jaKv fun σ5 => jc_A_ticks_3 32 (fun a' σ1 => jaDe 12 jy_M_ticks [jaMo, .inl (nI a)] σ1 (jaKi fun b σ2 => a' = b ∧ jI σ2)) (nI a) r4 (nI 0) σ5)))) (by omega) e31 ht ?_
    · rw [jaU_self] at L
      exact L
    rw [jaU_self]
    refine sp_JM_min (by omega) (by omega) (by omega) ?_
    generalize hn : min a (1000 - jz ((σ 20).1 72 0) 31) = n
    by_cases n0 : n = 0
    · have t1 : jz ((σ 20).1 72 0) 31 = 1000 := by omega
      rw [n0]
      refine ⟨fun _ => ?_, fun z => absurd (by decide) z⟩
      rw [t1] at tt
      apply js_M_ticks
      refine sp_M_isIn (by omega) ?_
      rw [jaB_c (jx1N (by decide)), jaB_t ⟨a, a1, a60, rfl⟩]
      simp (disch := first | omega | decide) only [jaU_eq, jaU_U, nI_add, pk_mul, jaIx_nI, vp_inT, true_and, and_true, ↓jaO0, ↓jaO1, nI_z, nI_z2, nI_z3, nI_z4, nI_z5, nI_lt', nI_le', nI_eq', jaUI_at, jaPt_eq, jaPt_ne, jaUI_o, jaUI_2, jaUL_at, jaUL_o, jaUL_1, jaB_z, jaB_1, ↓jaB_01, Classical.not_not, and_self, true_or, or_true, nI_11, Nat.reduceEqDiff, Nat.reduceAdd, Nat.reduceMul, Nat.add_zero, Nat.zero_add, Nat.mul_zero, not_true_eq_false, not_false_eq_true, false_implies, true_implies, tt]
      exact hI0
    · refine ⟨fun z => absurd z (by rw [show (0 : Int32) = nI 0 from rfl, nI_le' (by omega) (by omega)]; omega), fun _ => ?_⟩
      refine sp_A_keepState (by omega) hR hW hm hq h9 h8 (fun T rT nT => ?_)
      obtain ⟨p1, p2, p3⟩ := @jKt0_n σ q m T
      rw [jaAs (p1 1 (by decide) (by omega))]
      refine jaFor (C := fun i => ∀ S1, jR S1 (jvTs3 (jIx (σ 20)) i) → S1.2 = (σ 1).2 → jc_A_ticks_3 32 (fun a' σ1 => jaDe 12 jy_M_ticks [jaMo, .inl (nI a)] σ1 (jaKi fun b σ2 => a' = b ∧ jI σ2)) (nI a) (nI n) (nI i) (jaU (jKt0 σ q m T) 1 S1)) (N := n) ?_ (fun i hi ih => ?_) (σ 1) hR rfl
      · intro S1 r1 e1
        apply jb_A_ticks_3
        refine ⟨fun _ => ?_, fun z => absurd (by rw [nI_le' (by omega) (by omega)]; omega) z⟩
        have e20 : jaU (jKt0 σ q m T) 1 S1 20 = σ 20 := by rw [jaU_ne (by decide), p1 20 (by decide) (by omega)]
        refine jaAk (k := 20) (B := σ 20) (P := fun τ => jaDe 12 jy_M_ticks [jaMo, .inl (nI a)] τ (jaKi fun b σ2 => nI n = b ∧ jI σ2)) e20 ?_
        apply js_M_ticks
        simp (disch := first | omega | decide) only [jaU_eq, jaU_U, nI_add, pk_mul, jaIx_nI, vp_inT, true_and, and_true, ↓jaO0, ↓jaO1, nI_z, nI_z2, nI_z3, nI_z4, nI_z5, nI_lt', nI_le', nI_eq', jaUI_at, jaPt_eq, jaPt_ne, jaUI_o, jaUI_2, jaUL_at, jaUL_o, jaUL_1, jaB_z, jaB_1, ↓jaB_01, Classical.not_not, and_self, true_or, or_true, nI_11, Nat.reduceEqDiff, Nat.reduceAdd, Nat.reduceMul, Nat.add_zero, Nat.zero_add, Nat.mul_zero, not_true_eq_false, not_false_eq_true, false_implies, true_implies]
        refine sp_M_isIn (by omega) ?_
        rw [jaB_c (jx1N (by decide)), jaB_t ⟨a, a1, a60, rfl⟩]
        have t1 : ¬ jz ((σ 20).1 72 0) 31 = 1000 := by omega
        simp (disch := first | omega | decide) only [jaU_eq, jaU_U, nI_add, pk_mul, jaIx_nI, vp_inT, true_and, and_true, ↓jaO0, ↓jaO1, nI_z, nI_z2, nI_z3, nI_z4, nI_z5, nI_lt', nI_le', nI_eq', jaUI_at, jaPt_eq, jaPt_ne, jaUI_o, jaUI_2, jaUL_at, jaUL_o, jaUL_1, jaB_z, jaB_1, ↓jaB_01, Classical.not_not, and_self, true_or, or_true, nI_11, Nat.reduceEqDiff, Nat.reduceAdd, Nat.reduceMul, Nat.add_zero, Nat.zero_add, Nat.mul_zero, not_true_eq_false, not_false_eq_true, false_implies, true_implies, tt, t1]
        refine sp_M_stores (s := (σ 20).1 72 0) (u := (σ 20).1 83 0) (m := m) (by omega) (by simp (disch := first | omega | decide) only [jaU_eq, jaU_U, nI_add, pk_mul, jaIx_nI, vp_inT, true_and, and_true, ↓jaO0, ↓jaO1, nI_z, nI_z2, nI_z3, nI_z4, nI_z5, nI_lt', nI_le', nI_eq', jaUI_at, jaPt_eq, jaPt_ne, jaUI_o, jaUI_2, jaUL_at, jaUL_o, jaUL_1, jaB_z, jaB_1, ↓jaB_01, Classical.not_not, and_self, true_or, or_true, nI_11, Nat.reduceEqDiff, Nat.reduceAdd, Nat.reduceMul, Nat.add_zero, Nat.zero_add, Nat.mul_zero, not_true_eq_false, not_false_eq_true, false_implies, true_implies]) (by simp (disch := first | omega | decide) only [jaU_eq, jaU_U, nI_add, pk_mul, jaIx_nI, vp_inT, true_and, and_true, ↓jaO0, ↓jaO1, nI_z, nI_z2, nI_z3, nI_z4, nI_z5, nI_lt', nI_le', nI_eq', jaUI_at, jaPt_eq, jaPt_ne, jaUI_o, jaUI_2, jaUL_at, jaUL_o, jaUL_1, jaB_z, jaB_1, ↓jaB_01, Classical.not_not, and_self, true_or, or_true, nI_11, Nat.reduceEqDiff, Nat.reduceAdd, Nat.reduceMul, Nat.add_zero, Nat.zero_add, Nat.mul_zero, not_true_eq_false, not_false_eq_true, false_implies, true_implies]) (by simp (disch := first | omega | decide) only [jaU_eq, jaU_U, nI_add, pk_mul, jaIx_nI, vp_inT, true_and, and_true, ↓jaO0, ↓jaO1, nI_z, nI_z2, nI_z3, nI_z4, nI_z5, nI_lt', nI_le', nI_eq', jaUI_at, jaPt_eq, jaPt_ne, jaUI_o, jaUI_2, jaUL_at, jaUL_o, jaUL_1, jaB_z, jaB_1, ↓jaB_01, Classical.not_not, and_self, true_or, or_true, nI_11, Nat.reduceEqDiff, Nat.reduceAdd, Nat.reduceMul, Nat.add_zero, Nat.zero_add, Nat.mul_zero, not_true_eq_false, not_false_eq_true, false_implies, true_implies, h33]) hm (fun S2 s83 s33 f2 => ?_)
        have g72 : S2.1 72 0 = (σ 20).1 72 0 := by
          rw [f2.s 72 (by decide) (by decide)]
          simp (disch := first | omega | decide) only [jaU_eq, jaU_U, nI_add, pk_mul, jaIx_nI, vp_inT, true_and, and_true, ↓jaO0, ↓jaO1, nI_z, nI_z2, nI_z3, nI_z4, nI_z5, nI_lt', nI_le', nI_eq', jaUI_at, jaPt_eq, jaPt_ne, jaUI_o, jaUI_2, jaUL_at, jaUL_o, jaUL_1, jaB_z, jaB_1, ↓jaB_01, Classical.not_not, and_self, true_or, or_true, nI_11, Nat.reduceEqDiff, Nat.reduceAdd, Nat.reduceMul, Nat.add_zero, Nat.zero_add, Nat.mul_zero, not_true_eq_false, not_false_eq_true, false_implies, true_implies]
        have g75 : S2.1 75 0 = (σ 20).1 75 0 := by
          rw [f2.s 75 (by decide) (by decide)]
          simp (disch := first | omega | decide) only [jaU_eq, jaU_U, nI_add, pk_mul, jaIx_nI, vp_inT, true_and, and_true, ↓jaO0, ↓jaO1, nI_z, nI_z2, nI_z3, nI_z4, nI_z5, nI_lt', nI_le', nI_eq', jaUI_at, jaPt_eq, jaPt_ne, jaUI_o, jaUI_2, jaUL_at, jaUL_o, jaUL_1, jaB_z, jaB_1, ↓jaB_01, Classical.not_not, and_self, true_or, or_true, nI_11, Nat.reduceEqDiff, Nat.reduceAdd, Nat.reduceMul, Nat.add_zero, Nat.zero_add, Nat.mul_zero, not_true_eq_false, not_false_eq_true, false_implies, true_implies]
        have g76 : S2.1 76 0 = (σ 20).1 76 0 := by
          rw [f2.s 76 (by decide) (by decide)]
          simp (disch := first | omega | decide) only [jaU_eq, jaU_U, nI_add, pk_mul, jaIx_nI, vp_inT, true_and, and_true, ↓jaO0, ↓jaO1, nI_z, nI_z2, nI_z3, nI_z4, nI_z5, nI_lt', nI_le', nI_eq', jaUI_at, jaPt_eq, jaPt_ne, jaUI_o, jaUI_2, jaUL_at, jaUL_o, jaUL_1, jaB_z, jaB_1, ↓jaB_01, Classical.not_not, and_self, true_or, or_true, nI_11, Nat.reduceEqDiff, Nat.reduceAdd, Nat.reduceMul, Nat.add_zero, Nat.zero_add, Nat.mul_zero, not_true_eq_false, not_false_eq_true, false_implies, true_implies]
        refine sp_M_goesOn (by omega) g72 g75 g76 hW a60 ht (fun S3 s72 s76 f3 => ?_)
        rw [hn] at s72 s76
        rw [hn]
        refine ⟨rfl, ?_⟩
        obtain ⟨w1, w2, w3⟩ := jvTs3_W hW3 n (by show jz ((σ 20).1 72 0) 31 + n < 3000; omega)
        rw [show jIx (σ 20) = ((σ 20).1 72 0, (σ 20).1 75 0, (σ 20).1 76 0) from rfl] at w1 w2 w3 r1
        have w3 : jz (jvTs3 ((σ 20).1 72 0, (σ 20).1 75 0, (σ 20).1 76 0) n).1 31 = jz ((σ 20).1 72 0) 31 + n := w3
        refine jI_act2 (x' := jvTs3 ((σ 20).1 72 0, (σ 20).1 75 0, (σ 20).1 76 0) n) hI hm hq h9 h8 rT nT r1 e1 w1 w2 (by omega) s83 s33 f2 ?_ ?_ ?_ f3 (by decide) (by decide)
        · rw [jvTs3_eq]
          exact s72
        · rw [jvTs3_eq]
          exact (congrFun (f3.s 75 (by decide) (by decide)) 0).trans g75
        · rw [jvTs3_eq]
          exact s76
      · intro S1 r1 e1
        obtain ⟨w1, w2, w3⟩ := jvTs3_W hW3 i (by show jz ((σ 20).1 72 0) 31 + i < 3000; omega)
        apply jb_A_ticks_3
        refine ⟨fun z => absurd z (by rw [nI_le' (by omega) (by omega)]; omega), fun _ => ?_⟩
        refine sp_St_passTick3 (by omega) r1 w1 (fun S2 r2 e2 => ?_)
        rw [nI_add]
        exact ih S2 r2 ((congrArg Prod.fst e2).trans e1)
  · have M0 : jaDe 12 jy_M_ticks [jaMo, .inl x1] σ (jaKi fun b σ2 => (-1 : Int32) = b ∧ jI σ2) := by
      apply js_M_ticks
      refine sp_M_isIn (by omega) ?_
      rw [jaB_c (jx1N (by decide)), jaB_f c]
      exact ⟨fun z => absurd rfl z, fun _ => ⟨rfl, hI0⟩⟩
    exact ⟨fun _ => M0, fun y => ⟨fun z => absurd ((jx1N (by decide)).mp ⟨y, jxLe.mp z⟩) c, fun _ => M0⟩⟩
theorem jf_drawn {x1 x2 : Int32} : jFc jy_A_drawn jy_M_drawn [.inl x1, .inl x2] := by
  intro σ hI
  have hR := hI.R
  have hW := hI.W
  have hI0 := jI_0 (v := nI 0) hI
  have ht := hI.2.1.2.2.1
  obtain ⟨m, q, hm, hq, h9, h8, h33, -, -⟩ := hI.2.2.1
  have hW3 : jW3 (jIx (σ 20)) := hW
  have tt := hW.t
  have e31 : (σ 1).1 40 0 5 = nI (jz ((σ 20).1 72 0) 31) := hR.t.trans tt
  apply js_A_drawn
  by_cases c : ∃ a, 1 ≤ a ∧ a ≤ 60 ∧ x1 = nI a
  · obtain ⟨a, a1, a60, rfl⟩ := c
    refine ⟨fun z => absurd z (by rw [nI_lt' (by omega) (by omega)]; omega), fun _ => ⟨fun _ => ?_, fun z => absurd (by rw [nI_le' (by omega) (by omega)]; omega) z⟩⟩
    have L := sp_St_ticksLeft (D := 32) (σ := σ) (S := σ 1) (k := 1) (kk := fun r2 σ1 => jaDe 32 jy_JM_min [.inl (nI a), .inl r2] σ1 (jaKi fun r4 σ3 => (r4 ≤ 0 → jaDe 12 jy_M_drawn [jaMo, .inl (nI a), .inl x2] σ3 (jaKi fun b σ2 => r4 = b ∧ jI σ2)) ∧ (¬ r4 ≤ 0 → jaDe 32 jy_A_keepState [jcA] σ3 (jaKv fun σ5 => jaDe 32 jy_St_drawTicks [jcSt 1, .inl r4, .inl x2] σ5 (jaKv fun σ6 => jaDe 12 jy_M_drawn [jaMo, .inl (nI a), .inl x2] σ6 (jaKi fun b σ2 => r4 = b ∧ jI σ2)))))) (by omega) e31 ht ?_
    · rw [jaU_self] at L
      exact L
    rw [jaU_self]
    refine sp_JM_min (by omega) (by omega) (by omega) ?_
    generalize hn : min a (1000 - jz ((σ 20).1 72 0) 31) = n
    by_cases n0 : n = 0
    · have t1 : jz ((σ 20).1 72 0) 31 = 1000 := by omega
      rw [n0]
      refine ⟨fun _ => ?_, fun z => absurd (by decide) z⟩
      have t1' := tt
      rw [t1] at t1'
      apply js_M_drawn
      refine sp_M_isIn (by omega) ?_
      rw [jaB_c (jx1N (by decide)), jaB_t ⟨a, a1, a60, rfl⟩]
      simp (disch := first | omega | decide) only [jaU_eq, jaU_U, nI_add, pk_mul, jaIx_nI, vp_inT, true_and, and_true, ↓jaO0, ↓jaO1, nI_z, nI_z2, nI_z3, nI_z4, nI_z5, nI_lt', nI_le', nI_eq', jaUI_at, jaPt_eq, jaPt_ne, jaUI_o, jaUI_2, jaUL_at, jaUL_o, jaUL_1, jaB_z, jaB_1, ↓jaB_01, Classical.not_not, and_self, true_or, or_true, nI_11, Nat.reduceEqDiff, Nat.reduceAdd, Nat.reduceMul, Nat.add_zero, Nat.zero_add, Nat.mul_zero, not_true_eq_false, not_false_eq_true, false_implies, true_implies, t1']
      refine ⟨fun _ => ?_, fun z => absurd (Nat.le_refl _) z⟩
      refine sp_M_draws (x := jIx (σ 20)) (by omega) (by simp (disch := first | omega | decide) only [jaU_eq, jaU_U, nI_add, pk_mul, jaIx_nI, vp_inT, true_and, and_true, ↓jaO0, ↓jaO1, nI_z, nI_z2, nI_z3, nI_z4, nI_z5, nI_lt', nI_le', nI_eq', jaUI_at, jaPt_eq, jaPt_ne, jaUI_o, jaUI_2, jaUL_at, jaUL_o, jaUL_1, jaB_z, jaB_1, ↓jaB_01, Classical.not_not, and_self, true_or, or_true, nI_11, Nat.reduceEqDiff, Nat.reduceAdd, Nat.reduceMul, Nat.add_zero, Nat.zero_add, Nat.mul_zero, not_true_eq_false, not_false_eq_true, false_implies, true_implies]) (by simp (disch := first | omega | decide) only [jaU_eq, jaU_U, nI_add, pk_mul, jaIx_nI, vp_inT, true_and, and_true, ↓jaO0, ↓jaO1, nI_z, nI_z2, nI_z3, nI_z4, nI_z5, nI_lt', nI_le', nI_eq', jaUI_at, jaPt_eq, jaPt_ne, jaUI_o, jaUI_2, jaUL_at, jaUL_o, jaUL_1, jaB_z, jaB_1, ↓jaB_01, Classical.not_not, and_self, true_or, or_true, nI_11, Nat.reduceEqDiff, Nat.reduceAdd, Nat.reduceMul, Nat.add_zero, Nat.zero_add, Nat.mul_zero, not_true_eq_false, not_false_eq_true, false_implies, true_implies]) (by simp (disch := first | omega | decide) only [jaU_eq, jaU_U, nI_add, pk_mul, jaIx_nI, vp_inT, true_and, and_true, ↓jaO0, ↓jaO1, nI_z, nI_z2, nI_z3, nI_z4, nI_z5, nI_lt', nI_le', nI_eq', jaUI_at, jaPt_eq, jaPt_ne, jaUI_o, jaUI_2, jaUL_at, jaUL_o, jaUL_1, jaB_z, jaB_1, ↓jaB_01, Classical.not_not, and_self, true_or, or_true, nI_11, Nat.reduceEqDiff, Nat.reduceAdd, Nat.reduceMul, Nat.add_zero, Nat.zero_add, Nat.mul_zero, not_true_eq_false, not_false_eq_true, false_implies, true_implies]) hW3 a60 ht (fun S' b72 b75 b76 f => ?_)
      have hn' : min a (1000 - jz (jIx (σ 20)).1 31) = 0 := by
        show min a (1000 - jz ((σ 20).1 72 0) 31) = 0
        omega
      rw [hn'] at b72 b75 b76
      rw [hn']
      refine ⟨rfl, ?_⟩
      have f0 : jaFr [] [0] (σ 20) (jaUI (σ 20) 70 0 0 (nI 0)) := jaFr.rfl.uf (by decide)
      exact jI_G (A := [72, 75, 76, 80, 82]) (F := [0, 29, 40]) hI ((f0.mono (by decide) (by decide)).trans (f.mono (by decide) (by decide))) (by decide) (by decide) b72 (fun j _ => congrFun b75 j) (fun j _ => congrFun b76 j)
    · refine ⟨fun z => absurd z (by rw [show (0 : Int32) = nI 0 from rfl, nI_le' (by omega) (by omega)]; omega), fun _ => ?_⟩
      refine sp_A_keepState (by omega) hR hW hm hq h9 h8 (fun T rT nT => ?_)
      obtain ⟨p1, p2, p3⟩ := @jKt0_n σ q m T
      rw [jaAs (p1 1 (by decide) (by omega))]
      refine sp_St_drawTicks (x := jIx (σ 20)) (by omega) hR hW3 (by omega) ht (fun S1 r1 e1 => ?_)
      have hn2 : min n (1000 - jz (jIx (σ 20)).1 31) = n := by
        show min n (1000 - jz ((σ 20).1 72 0) 31) = n
        omega
      have hn3 : min a (1000 - jz (jIx (σ 20)).1 31) = n := hn
      rw [hn2] at r1
      have e20 : jaU (jKt0 σ q m T) 1 S1 20 = σ 20 := by rw [jaU_ne (by decide), p1 20 (by decide) (by omega)]
      refine jaAk (k := 20) (B := σ 20) (P := fun τ => jaDe 12 jy_M_drawn [jaMo, .inl (nI a), .inl x2] τ (jaKi fun b σ2 => nI n = b ∧ jI σ2)) e20 ?_
      apply js_M_drawn
      simp (disch := first | omega | decide) only [jaU_eq, jaU_U, nI_add, pk_mul, jaIx_nI, vp_inT, true_and, and_true, ↓jaO0, ↓jaO1, nI_z, nI_z2, nI_z3, nI_z4, nI_z5, nI_lt', nI_le', nI_eq', jaUI_at, jaPt_eq, jaPt_ne, jaUI_o, jaUI_2, jaUL_at, jaUL_o, jaUL_1, jaB_z, jaB_1, ↓jaB_01, Classical.not_not, and_self, true_or, or_true, nI_11, Nat.reduceEqDiff, Nat.reduceAdd, Nat.reduceMul, Nat.add_zero, Nat.zero_add, Nat.mul_zero, not_true_eq_false, not_false_eq_true, false_implies, true_implies]
      refine sp_M_isIn (by omega) ?_
      rw [jaB_c (jx1N (by decide)), jaB_t ⟨a, a1, a60, rfl⟩]
      have t1 : ¬ 1000 ≤ jz ((σ 20).1 72 0) 31 := by omega
      simp (disch := first | omega | decide) only [jaU_eq, jaU_U, nI_add, pk_mul, jaIx_nI, vp_inT, true_and, and_true, ↓jaO0, ↓jaO1, nI_z, nI_z2, nI_z3, nI_z4, nI_z5, nI_lt', nI_le', nI_eq', jaUI_at, jaPt_eq, jaPt_ne, jaUI_o, jaUI_2, jaUL_at, jaUL_o, jaUL_1, jaB_z, jaB_1, ↓jaB_01, Classical.not_not, and_self, true_or, or_true, nI_11, Nat.reduceEqDiff, Nat.reduceAdd, Nat.reduceMul, Nat.add_zero, Nat.zero_add, Nat.mul_zero, not_true_eq_false, not_false_eq_true, false_implies, true_implies, tt, t1]
      refine sp_M_stores (s := (σ 20).1 72 0) (u := (σ 20).1 83 0) (m := m) (by omega) (by simp (disch := first | omega | decide) only [jaU_eq, jaU_U, nI_add, pk_mul, jaIx_nI, vp_inT, true_and, and_true, ↓jaO0, ↓jaO1, nI_z, nI_z2, nI_z3, nI_z4, nI_z5, nI_lt', nI_le', nI_eq', jaUI_at, jaPt_eq, jaPt_ne, jaUI_o, jaUI_2, jaUL_at, jaUL_o, jaUL_1, jaB_z, jaB_1, ↓jaB_01, Classical.not_not, and_self, true_or, or_true, nI_11, Nat.reduceEqDiff, Nat.reduceAdd, Nat.reduceMul, Nat.add_zero, Nat.zero_add, Nat.mul_zero, not_true_eq_false, not_false_eq_true, false_implies, true_implies]) (by simp (disch := first | omega | decide) only [jaU_eq, jaU_U, nI_add, pk_mul, jaIx_nI, vp_inT, true_and, and_true, ↓jaO0, ↓jaO1, nI_z, nI_z2, nI_z3, nI_z4, nI_z5, nI_lt', nI_le', nI_eq', jaUI_at, jaPt_eq, jaPt_ne, jaUI_o, jaUI_2, jaUL_at, jaUL_o, jaUL_1, jaB_z, jaB_1, ↓jaB_01, Classical.not_not, and_self, true_or, or_true, nI_11, Nat.reduceEqDiff, Nat.reduceAdd, Nat.reduceMul, Nat.add_zero, Nat.zero_add, Nat.mul_zero, not_true_eq_false, not_false_eq_true, false_implies, true_implies]) (by simp (disch := first | omega | decide) only [jaU_eq, jaU_U, nI_add, pk_mul, jaIx_nI, vp_inT, true_and, and_true, ↓jaO0, ↓jaO1, nI_z, nI_z2, nI_z3, nI_z4, nI_z5, nI_lt', nI_le', nI_eq', jaUI_at, jaPt_eq, jaPt_ne, jaUI_o, jaUI_2, jaUL_at, jaUL_o, jaUL_1, jaB_z, jaB_1, ↓jaB_01, Classical.not_not, and_self, true_or, or_true, nI_11, Nat.reduceEqDiff, Nat.reduceAdd, Nat.reduceMul, Nat.add_zero, Nat.zero_add, Nat.mul_zero, not_true_eq_false, not_false_eq_true, false_implies, true_implies, h33]) hm (fun S2 s83 s33 f2 => ?_)
      have g72 : S2.1 72 0 = (σ 20).1 72 0 := by
        rw [f2.s 72 (by decide) (by decide)]
        simp (disch := first | omega | decide) only [jaU_eq, jaU_U, nI_add, pk_mul, jaIx_nI, vp_inT, true_and, and_true, ↓jaO0, ↓jaO1, nI_z, nI_z2, nI_z3, nI_z4, nI_z5, nI_lt', nI_le', nI_eq', jaUI_at, jaPt_eq, jaPt_ne, jaUI_o, jaUI_2, jaUL_at, jaUL_o, jaUL_1, jaB_z, jaB_1, ↓jaB_01, Classical.not_not, and_self, true_or, or_true, nI_11, Nat.reduceEqDiff, Nat.reduceAdd, Nat.reduceMul, Nat.add_zero, Nat.zero_add, Nat.mul_zero, not_true_eq_false, not_false_eq_true, false_implies, true_implies]
      have g75 : S2.1 75 0 = (σ 20).1 75 0 := by
        rw [f2.s 75 (by decide) (by decide)]
        simp (disch := first | omega | decide) only [jaU_eq, jaU_U, nI_add, pk_mul, jaIx_nI, vp_inT, true_and, and_true, ↓jaO0, ↓jaO1, nI_z, nI_z2, nI_z3, nI_z4, nI_z5, nI_lt', nI_le', nI_eq', jaUI_at, jaPt_eq, jaPt_ne, jaUI_o, jaUI_2, jaUL_at, jaUL_o, jaUL_1, jaB_z, jaB_1, ↓jaB_01, Classical.not_not, and_self, true_or, or_true, nI_11, Nat.reduceEqDiff, Nat.reduceAdd, Nat.reduceMul, Nat.add_zero, Nat.zero_add, Nat.mul_zero, not_true_eq_false, not_false_eq_true, false_implies, true_implies]
      have g76 : S2.1 76 0 = (σ 20).1 76 0 := by
        rw [f2.s 76 (by decide) (by decide)]
        simp (disch := first | omega | decide) only [jaU_eq, jaU_U, nI_add, pk_mul, jaIx_nI, vp_inT, true_and, and_true, ↓jaO0, ↓jaO1, nI_z, nI_z2, nI_z3, nI_z4, nI_z5, nI_lt', nI_le', nI_eq', jaUI_at, jaPt_eq, jaPt_ne, jaUI_o, jaUI_2, jaUL_at, jaUL_o, jaUL_1, jaB_z, jaB_1, ↓jaB_01, Classical.not_not, and_self, true_or, or_true, nI_11, Nat.reduceEqDiff, Nat.reduceAdd, Nat.reduceMul, Nat.add_zero, Nat.zero_add, Nat.mul_zero, not_true_eq_false, not_false_eq_true, false_implies, true_implies]
      refine sp_M_draws (x := jIx (σ 20)) (by omega) g72 g75 g76 hW3 a60 ht (fun S3 s72 s75 s76 f3 => ?_)
      rw [hn3] at s72 s75 s76
      rw [hn3]
      refine ⟨rfl, ?_⟩
      obtain ⟨w1, w2, w3⟩ := jvDs_W (x := jIx (σ 20)) (z := x2) hW3 n (by show jz ((σ 20).1 72 0) 31 + n < 3000; omega)
      have w3 : jz (jvDs (jIx (σ 20), x2) n).1.1 31 = jz ((σ 20).1 72 0) 31 + n := w3
      exact jI_act2 (x' := (jvDs (jIx (σ 20), x2) n).1) hI hm hq h9 h8 rT nT r1 e1 w1 w2 (by omega) s83 s33 f2 s72 s75 s76 f3 (by decide) (by decide)
  · have M0 : jaDe 12 jy_M_drawn [jaMo, .inl x1, .inl x2] σ (jaKi fun b σ2 => (-1 : Int32) = b ∧ jI σ2) := by
      apply js_M_drawn
      refine sp_M_isIn (by omega) ?_
      rw [jaB_c (jx1N (by decide)), jaB_f c]
      exact ⟨fun z => absurd rfl z, fun _ => ⟨rfl, hI0⟩⟩
    exact ⟨fun _ => M0, fun y => ⟨fun z => absurd ((jx1N (by decide)).mp ⟨y, jxLe.mp z⟩) c, fun _ => M0⟩⟩
end
