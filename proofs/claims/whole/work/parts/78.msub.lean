section
/-! the reference: a TRANS read whole -/
set_option maxHeartbeats 2000000 in
theorem sp_M_takesStep {D : Nat} (hD : 7 ≤ D) {kk : Int32 → jaT → Prop} {σ : jaT} {S : jaS} {X : jtX} {nm : Nat → Nat} {K i st : Nat} {u : jsS} (hM : jsM S X nm K u i) (hK : K ≤ 10) (hw : jsW K u) (hst : st ≤ 6)
    (h : ∀ u' i', jsStep X nm K st u i = .inr (u', i') → ∀ S', jsM S' X nm K u' i' → jaFr [77] jsG S S' → kk (nI 1) (jaU σ 20 S'))
    (h0 : ∀ c p, jsStep X nm K st u i = .inl (c, p) → ∀ S', jmFl S' X c p → jaFr [77] jsG S S' → kk (nI 0) (jaU σ 20 S')) :
    jaDe D jy_M_takesStep [jaMo, .inl (nI st)] (jaU σ 20 S) (jaKi kk) := by
  have hR := hM.1
  have hX := hR.1.2.1
  obtain ⟨D, rfl, hD⟩ := jaSuc hD
  -- all behind the reference
  have B : ∀ (p : Prop) j S1 x3 x1, (p ↔ jtK X i = 107) → (p → ¬ st = 6) → j = i + jaBn p → x3 = 7 + 21 * (if st = 6 then 0 else st) → jsM S1 X nm K u j → jaFr [77] jsG S S1 → jc_M_takesStep_6 D kk x1 (jaB (st = 6)) (nI x3) (jaB p) (jaU σ 20 S1) := by
    intro p j S1 x3 x1 hp hp6 hj hx3 hM1 f1
    have es : ∀ u1 r t i1, jsRef X nm K (st = 6) u j = .inr (u1, r, t, i1) → jsStep X nm K st u i = jsBd X nm K (7 + 21 * st) p u1 r t i1 := by
      intro u1 r t i1 e
      unfold jsStep jsBd
      by_cases q : p
      · rw [jaIf1_t (hp.mp q), jaIf1_f (hp6 q), jaIf1_t q, jsNeed]
        rw [hj, jaBn_t q] at e
        rw [jwB_i e]
      · rw [jaIf1_f (fun z => q (hp.mpr z)), jaIf1_f q, jsGive]
        rw [hj, jaBn_f q] at e
        rw [show jsRef X nm K (st = 6) u i = _ from e]
        rfl
    apply jb_M_takesStep_6
    refine sp_M_takesRef (full := st = 6) (nm := nm) (K := K) (u := u) (i := j) (X := X) (by omega) hM1 hK hw (fun u1 r t i1 e S2 a1 a2 a3 f2 => ?_) (fun c q e S2 a1 f2 => ?_)
    · obtain ⟨g1, g2, g3, g4, g5, g6⟩ := jsRef_r e hw hK
      rw [if_neg g1] at hx3
      subst hx3
      rw [es u1 r t i1 e] at h h0
      refine ⟨fun _ => ?_, fun z => absurd z (by decide)⟩
      have C := jm_9 (x1 := x1) (x2 := jaB (st = 6)) (to := 7 + 21 * st) (by omega) hK (by omega) (by omega) a1 g2 g4 g5 a2 a3 (f1.trans f2) h h0
      refine ⟨fun z => ?_, fun z => ?_⟩
      · rw [jaB_z] at z
        rw [jaBn_f z] at C
        exact C
      · rw [jaB_z] at z
        rw [jaBn_t (Classical.not_not.mp z)] at C
        exact C
    · refine ⟨fun z => absurd rfl z, fun _ => ⟨Or.inl rfl, h0 c q ?_ S2 a1 (f1.trans f2)⟩⟩
      unfold jsStep
      by_cases y : p
      · rw [jaIf1_t (hp.mp y), jaIf1_f (hp6 y), jsNeed]
        rw [hj, jaBn_t y] at e
        rw [jwB_l e]
      · rw [jaIf1_f (fun z => y (hp.mpr z)), jsGive]
        rw [hj, jaBn_f y] at e
        rw [show jsRef X nm K (st = 6) u i = _ from e]
        rfl
  have A : ∀ x3 x1, x3 = 7 + 21 * (if st = 6 then 0 else st) → ∀ xs0 xs1 xs2, xs0 + xs1 * xs2 = nI x3 → jc_M_takesStep_4 D kk x1 (jaB (st = 6)) xs0 xs1 xs2 (jaU σ 20 S) := by
    intro x3 x1 hx3 xs0 xs1 xs2 e3
    apply jb_M_takesStep_4
    rw [e3]
    refine sp_M_isWord (n := 7) (by omega) hR (by omega) (by decide +kernel) ?_
    simp (disch := first | omega | decide) only [jaU_eq, jaU_U, nI_add, pk_mul, jaIx_nI, vp_inT, true_and, and_true, ↓jaO0, ↓jaO1, nI_z, nI_z2, nI_z3, nI_z4, nI_z5, nI_lt', nI_le', nI_eq', jaUI_at, jaPt_eq, jaPt_ne, jaUI_o, jaUI_2, jaUL_at, jaUL_o, jaUL_1, jaB_z, jaB_1, ↓jaB_01, Classical.not_not, and_self, true_or, or_true, nI_11, Nat.reduceEqDiff, Nat.reduceAdd, Nat.reduceMul, Nat.add_zero, Nat.zero_add, Nat.mul_zero, not_true_eq_false, not_false_eq_true, false_implies, true_implies]
    refine ⟨fun q => ?_, fun q => ⟨fun q2 => ?_, fun q2 => ?_⟩⟩
    · apply jb_M_takesStep_5
      refine ⟨fun _ => ?_, fun z => absurd q (by rw [jaB_z] at z; exact z)⟩
      exact B _ i S x3 x1 Iff.rfl (fun z => absurd z q) (by rw [jaBn_f q, Nat.add_zero]) hx3 hM jaFr.rfl
    · apply jb_M_takesStep_5
      refine ⟨fun z => absurd q (by rw [jaB_z] at z; exact z), fun _ => ?_⟩
      refine sp_M_next' (by omega) hR (fun S1 a1 f1 => ?_)
      have F1 : jaFr [77] jsG S S1 := f1.mono (by decide) (by decide)
      refine B _ (i + 1) S1 x3 x1 Iff.rfl (fun _ => q2) (by rw [jaBn_t q]) hx3 (hM.x F1 (by decide) (by decide) a1 ?_ ?_) F1
      · rw [f1.s 77 (by decide) (by decide)]; exact hM.2.2.2.1
      · rw [f1.f 24 (by decide)]; exact hM.2.2.2.2
    · have q3 := q2
      refine sp_M_bad (by omega) hR (fun S2 a2 f2 => ⟨Or.inl rfl, h0 4 i ?_ S2 a2 (f2.mono (by decide) (by decide))⟩)
      unfold jsStep
      rw [jaIf1_t q, jaIf1_t q3]
  apply js_M_takesStep
  simp (disch := first | omega | decide) only [jaU_eq, jaU_U, nI_add, pk_mul, jaIx_nI, vp_inT, true_and, and_true, ↓jaO0, ↓jaO1, nI_z, nI_z2, nI_z3, nI_z4, nI_z5, nI_lt', nI_le', nI_eq', jaUI_at, jaPt_eq, jaPt_ne, jaUI_o, jaUI_2, jaUL_at, jaUL_o, jaUL_1, jaB_z, jaB_1, ↓jaB_01, Classical.not_not, and_self, true_or, or_true, nI_11, Nat.reduceEqDiff, Nat.reduceAdd, Nat.reduceMul, Nat.add_zero, Nat.zero_add, Nat.mul_zero, not_true_eq_false, not_false_eq_true, false_implies, true_implies]
  refine ⟨fun q => ?_, fun q => ?_⟩
  · apply jb_M_takesStep_2
    refine ⟨fun _ => ?_, fun z => absurd rfl z⟩
    have := A (7 + 21 * st) (nI st) (by rw [if_neg q]) (nI 7) (nI 21) (nI st) (by simp (disch := first | omega | decide) only [jaU_eq, jaU_U, nI_add, pk_mul, jaIx_nI, vp_inT, true_and, and_true, ↓jaO0, ↓jaO1, nI_z, nI_z2, nI_z3, nI_z4, nI_z5, nI_lt', nI_le', nI_eq', jaUI_at, jaPt_eq, jaPt_ne, jaUI_o, jaUI_2, jaUL_at, jaUL_o, jaUL_1, jaB_z, jaB_1, ↓jaB_01, Classical.not_not, and_self, true_or, or_true, nI_11, Nat.reduceEqDiff, Nat.reduceAdd, Nat.reduceMul, Nat.add_zero, Nat.zero_add, Nat.mul_zero, not_true_eq_false, not_false_eq_true, false_implies, true_implies])
    rw [jaB_f q] at this
    exact this
  · apply jb_M_takesStep_2
    refine ⟨fun z => absurd z (by decide), fun _ => ?_⟩
    have := A 7 (nI st) (by rw [if_pos q]) (nI 7) (nI 21) (nI 0) (by simp (disch := first | omega | decide) only [jaU_eq, jaU_U, nI_add, pk_mul, jaIx_nI, vp_inT, true_and, and_true, ↓jaO0, ↓jaO1, nI_z, nI_z2, nI_z3, nI_z4, nI_z5, nI_lt', nI_le', nI_eq', jaUI_at, jaPt_eq, jaPt_ne, jaUI_o, jaUI_2, jaUL_at, jaUL_o, jaUL_1, jaB_z, jaB_1, ↓jaB_01, Classical.not_not, and_self, true_or, or_true, nI_11, Nat.reduceEqDiff, Nat.reduceAdd, Nat.reduceMul, Nat.add_zero, Nat.zero_add, Nat.mul_zero, not_true_eq_false, not_false_eq_true, false_implies, true_implies])
    rw [jaB_t q] at this
    exact this
/-- the steps, and what comes behind them -/
theorem sp_M_sub {D : Nat} (hD : 7 ≤ D) {kk : Int32 → jaT → Prop} {σ : jaT} {S : jaS} {X : jtX} {nm : Nat → Nat} {K : Nat} {x1 : Int32} (hK : K ≤ 10) : ∀ m st u i S1, st + m = 7 → 1 ≤ m → jsM S1 X nm K u i → jsW K u → jaFr [77] jsG S S1 →
    (∀ u' n', jsAll X nm K m st u i = .inr (u', n') → 1 ≤ n' → n' ≤ 6 → ∀ S', (S'.1 77 0 = u'.1 ∧ S'.1 70 0 24 = nI u'.2 ∧ S'.1 70 0 18 = nI 0) → jaFr [77] jsG S S' → (vp_in (nI 0) 133 ∧ (let σ5 : jaT := jaU (jaU σ 20 S') 20 (jaUI ((jaU σ 20 S') 20) 77 0 (jaIx (nI 0)) x1); vp_in (nI 1) 133 ∧ (let σ6 : jaT := jaU σ5 20 (jaUI (σ5 20) 77 0 (jaIx (nI 1)) (nI n')); vp_in (nI 2) 133 ∧ (let σ7 : jaT := jaU σ6 20 (jaUI (σ6 20) 77 0 (jaIx (nI 2)) ((σ6 20).1 70 0 24)); jaDe D jy_M_stores [jaMo] σ7 (jaKv fun σ8 => jc_M_submit_8 D kk x1 (nI n') (nI 0) σ8)))))) →
    (∀ c p, jsAll X nm K m st u i = .inl (c, p) → ∀ S', jmFl S' X c p → jaFr [77] jsG S S' → kk ((-2) - nI (jtAt X p)) (jaU σ 20 S')) →
    jc_M_submit_3 D kk x1 (nI st) (jaU σ 20 S1) := by
  intro m
  induction m with
  | zero => intro st u i S1 _ h1; exact absurd h1 (by omega)
  | succ m ih =>
    intro st u i S1 hm _ hM hw f h h0
    have hX := hM.1.1.2.1
    have ht := jtTc_lt (K := jtK X i)
    have g := hM.1.1.2.2.2.2.2.1
    rw [jsAll] at h h0
    have ST : ¬ (0 < st ∧ jtK X i = 1) → jaDe D jy_M_takesStep [jaMo, .inl (nI st)] (jaU σ 20 S1) (jaKi fun r2 σ1 => (r2 = 0 → kk ((-2 : Int32) - ((σ1 20).1 70 0 19)) σ1) ∧ (¬ r2 = 0 → jaDe D jy_M_sign [jaMo, .inl (nI 59)] σ1 (jaKi fun r4 σ3 => (¬ r4 = 0 → jc_M_submit_3 D kk x1 (nI st + nI 1) σ3) ∧ (r4 = 0 → kk ((-2 : Int32) - ((σ3 20).1 70 0 19)) σ3)))) := by
      intro q
      rw [jaIf1_f q] at h h0
      refine sp_M_takesStep (st := st) (nm := nm) (K := K) (u := u) (i := i) (X := X) (by omega) hM hK hw (by omega) (fun u1 i1 e S2 a2 f2 => ?_) (fun c p e S2 a2 f2 => ?_)
      · refine ⟨fun z => absurd z (by decide), fun _ => ?_⟩
        refine sp_M_sign (by omega) a2.1 (by omega) (by decide) (fun q2 S3 a3 f3 => ?_) (fun q2 S3 a3 f3 => ?_)
        · have F3 : jaFr [77] jsG S2 S3 := f3.mono (by decide) (by decide)
          have e1 : jsSs X nm K st u i = .inr (u1, i1 + 1) := by
            unfold jsSs
            rw [jwB_i e, jaIf1_t q2]
          rw [jwB_i e1] at h h0
          obtain ⟨g1, g2, g3, g4, g5⟩ := jsSs_r hX e1 hw hK
          refine ⟨fun _ => ?_, fun z => absurd z (by decide)⟩
          rw [nI_add]
          refine ih (st + 1) u1 (i1 + 1) S3 (by omega) (by omega) (a2.x F3 (by decide) (by decide) a3 ?_ ?_) g2 (f.trans (f2.trans F3)) h h0
          · rw [f3.s 77 (by decide) (by decide)]; exact a2.2.2.2.1
          · rw [f3.f 24 (by decide)]; exact a2.2.2.2.2
        · have e1 : jsSs X nm K st u i = .inl (1, i1) := by
            unfold jsSs
            rw [jwB_i e, jaIf1_f q2]
          rw [jwB_l e1] at h0
          refine ⟨fun z => absurd rfl z, fun _ => ?_⟩
          rw [jaU_eq, a3.2]
          exact h0 1 i1 rfl S3 a3 (f.trans (f2.trans (f3.mono (by decide) (by decide))))
      · have e1 : jsSs X nm K st u i = .inl (c, p) := by
          unfold jsSs
          rw [jwB_l e]
        rw [jwB_l e1] at h0
        refine ⟨fun _ => ?_, fun z => absurd rfl z⟩
        rw [jaU_eq, a2.2]
        exact h0 c p rfl S2 a2 (f.trans f2)
    apply jb_M_submit_3
    rw [show (nI st = 0) = (st = 0) from nI_z (by omega)]
    refine ⟨fun z => ST (fun w => by omega), fun z => ⟨fun z2 => ?_, fun z2 => ST (fun w => ?_)⟩⟩
    · rw [jaU_eq, g, nI_z (by omega)] at z2
      have q1 : jtK X i = 1 := by
        unfold jtTc at z2
        by_cases y : jtK X i = 1
        · exact y
        · rw [if_neg y] at z2
          by_cases y2 : jtK X i = 2
          · rw [if_pos y2] at z2; omega
          · rw [if_neg y2] at z2
            by_cases y3 : jtK X i = 3 ∨ 100 ≤ jtK X i
            · rw [if_pos y3] at z2; omega
            · rw [if_neg y3] at z2
              by_cases y4 : jtK X i = 0 ∨ jtK X i = 46
              · rw [if_pos y4] at z2; omega
              · rw [if_neg y4] at z2; omega
      rw [jaIf1_t ⟨by omega, q1⟩] at h
      exact h u st rfl (by omega) (by omega) S1 ⟨hM.2.2.2.1, hM.2.2.2.2, hM.1.1.1.2.2.2.2⟩ f
    · apply z2
      rw [jaU_eq, g, w.2]
      rfl
end
