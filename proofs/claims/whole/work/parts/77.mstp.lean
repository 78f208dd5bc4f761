section
/-! the reference: a TRANS's steps -/
theorem jtTc_s {K : Nat} (h : 60 ≤ K) (h2 : K ≤ 62) : jtTc K = 3 := by
  unfold jtTc
  rw [if_neg (by omega), if_neg (by omega), if_neg (by omega), if_neg (by omega)]
set_option maxHeartbeats 2000000 in
theorem jm_tl {D : Nat} (hD : 6 ≤ D) {kk : Int32 → jaT → Prop} {σ : jaT} {S : jaS} {X : jtX} {nm : Nat → Nat} {K to : Nat} {x1 x2 : Int32} (hK : K ≤ 10) (hto : 7 ≤ to) (hto2 : to + 21 ≤ 133) : ∀ m q u i S1 u5, q + m = 5 → 1 ≤ q → q ≤ 4 → jsM S1 X nm K u i → jsW K u → u.1 (to + 4) = nI q → jaFr [77] jsG S S1 →
    (∀ u' i', jaIf1 (jtK X i = 43 ∨ jtK X i = 45) (jsTl X nm K to m (jaBn (jtK X i = 45)) q u (i + 1)) (.inr (u, i)) = .inr (u', i') → ∀ S', jsM S' X nm K u' i' → jaFr [77] jsG S S' → kk (nI 1) (jaU σ 20 S')) →
    (∀ c p, jaIf1 (jtK X i = 43 ∨ jtK X i = 45) (jsTl X nm K to m (jaBn (jtK X i = 45)) q u (i + 1)) (.inr (u, i)) = .inl (c, p) → ∀ S', jmFl S' X c p → jaFr [77] jsG S S' → kk (nI 0) (jaU σ 20 S')) →
    jc_M_takesStep_13 D kk x1 x2 (nI to) (nI 0) u5 (jaU σ 20 S1) := by
  intro m
  induction m with
  | zero => intro q u i S1 u5 h1 _ h2; exact absurd h2 (by omega)
  | succ m ih =>
    intro q u i S1 u5 hqm hq1 hq4 hM hw h4 f h h0
    have hX := hM.1.1.2.1
    have G : (jtK X i = 43 ∨ jtK X i = 45) → ∀ u5, jc_M_takesStep_14 D kk x1 x2 (nI to) (nI 0) u5 (jaU σ 20 S1) := by
      intro hs u5
      rw [jaIf1_t hs, jsTl] at h h0
      apply jb_M_takesStep_14
      refine sp_M_isSign (by omega) hM.1 (by omega) (by decide) ?_
      refine sp_M_next' (by omega) hM.1 (fun S2 a2 f2 => ?_)
      rw [jaB_n]
      have F2 : jaFr [77] jsG S1 S2 := f2.mono (by decide) (by decide)
      refine sp_M_takesTerm (nm := nm) (K := K) (u := u) (k := q) (i := i + 1) (X := X) (by omega) (hM.x F2 (by decide) (by decide) a2 ?_ ?_) hK hw hto hto2 jaBn_le hq4 h4 (fun u1 i1 e1 S3 a3 f3 => ?_) (fun c p e1 S3 a3 f3 => ?_)
      · rw [f2.s 77 (by decide) (by decide)]; exact hM.2.2.2.1
      · rw [f2.f 24 (by decide)]; exact hM.2.2.2.2
      · rw [jwB_i e1] at h h0
        obtain ⟨g1, g2, g3, g4, g5, g6⟩ := jsTerm_r hX e1 hw hK hto jaBn_le
        refine ⟨fun _ => ?_, fun z => absurd z (by decide)⟩
        exact ih (q + 1) u1 i1 S3 _ (by omega) (by omega) (by omega) a3 g2 g5 (f.trans (F2.trans f3)) h h0
      · rw [jwB_l e1] at h0
        exact ⟨fun z => absurd rfl z, fun _ => ⟨Or.inl rfl, h0 c p rfl S3 a3 (f.trans (F2.trans f3))⟩⟩
    apply jb_M_takesStep_13
    refine ⟨fun z => absurd rfl z, fun _ => ?_⟩
    refine sp_M_isSign (by omega) hM.1 (by omega) (by decide) ?_
    simp (disch := first | omega | decide) only [jaU_eq, jaU_U, nI_add, pk_mul, jaIx_nI, vp_inT, true_and, and_true, ↓jaO0, ↓jaO1, nI_z, nI_z2, nI_z3, nI_z4, nI_z5, nI_lt', nI_le', nI_eq', jaUI_at, jaPt_eq, jaPt_ne, jaUI_o, jaUI_2, jaUL_at, jaUL_o, jaUL_1, jaB_z, jaB_1, ↓jaB_01, Classical.not_not, and_self, true_or, or_true, nI_11, Nat.reduceEqDiff, Nat.reduceAdd, Nat.reduceMul, Nat.add_zero, Nat.zero_add, Nat.mul_zero, not_true_eq_false, not_false_eq_true, false_implies, true_implies]
    refine ⟨fun z => G (Or.inl z) _, fun z => ?_⟩
    refine sp_M_isSign (by omega) hM.1 (by omega) (by decide) ?_
    simp (disch := first | omega | decide) only [jaU_eq, jaU_U, nI_add, pk_mul, jaIx_nI, vp_inT, true_and, and_true, ↓jaO0, ↓jaO1, nI_z, nI_z2, nI_z3, nI_z4, nI_z5, nI_lt', nI_le', nI_eq', jaUI_at, jaPt_eq, jaPt_ne, jaUI_o, jaUI_2, jaUL_at, jaUL_o, jaUL_1, jaB_z, jaB_1, ↓jaB_01, Classical.not_not, and_self, true_or, or_true, nI_11, Nat.reduceEqDiff, Nat.reduceAdd, Nat.reduceMul, Nat.add_zero, Nat.zero_add, Nat.mul_zero, not_true_eq_false, not_false_eq_true, false_implies, true_implies]
    refine ⟨fun z2 => ?_, fun z2 => G (Or.inr z2) _⟩
    rw [jaIf1_f (fun w => w.elim z z2)] at h
    apply jb_M_takesStep_16
    exact ⟨Or.inr rfl, h u i rfl S1 hM f⟩
/-- what comes behind a step's reference -/
noncomputable def jsBd (X : jtX) (nm : Nat → Nat) (K to : Nat) (p : Prop) (u1 : jsS) (r : Nat) (t : Option Nat) (i1 : Nat) : Sum jwF (jsS × Nat) :=
  jaIf1 p (jaIf1 (60 ≤ jtK X i1 ∧ jtK X i1 ≤ 62) (jsTerm X nm K to 0 0 (jsHd u1.1 to 1 r t (jtK X i1), u1.2) (i1 + 1)) (.inl (1, i1))) (jaIf1 (jtK X i1 = 61) (jsTl X nm K to 5 0 0 (jsHd u1.1 to 0 r t 61, u1.2) (i1 + 1)) (.inl (1, i1)))
set_option maxHeartbeats 2000000 in
theorem jm_9 {D : Nat} (hD : 6 ≤ D) {kk : Int32 → jaT → Prop} {σ : jaT} {S S1 : jaS} {X : jtX} {nm : Nat → Nat} {K to r i1 : Nat} {t : Option Nat} {u1 : jsS} {x1 x2 : Int32} {p : Prop} (hK : K ≤ 10) (hto : 7 ≤ to) (hto2 : to + 21 ≤ 133) (hM : jsM S1 X nm K u1 i1) (hw : jsW K u1) (hr : r < K) (ht : ∀ j, t = some j → j < u1.2) (h25 : S1.1 70 0 25 = nI r) (h26 : S1.1 70 0 26 = jvOp t nI) (f : jaFr [77] jsG S S1)
    (h : ∀ u' i', jsBd X nm K to p u1 r t i1 = .inr (u', i') → ∀ S', jsM S' X nm K u' i' → jaFr [77] jsG S S' → kk (nI 1) (jaU σ 20 S'))
    (h0 : ∀ c q, jsBd X nm K to p u1 r t i1 = .inl (c, q) → ∀ S', jmFl S' X c q → jaFr [77] jsG S S' → kk (nI 0) (jaU σ 20 S')) :
    jc_M_takesStep_9 D kk x1 x2 (nI to) (jaB p) (nI to) (nI (jaBn p)) (jaU σ 20 S1) := by
  have hM' := hM
  obtain ⟨hR, hn, h1, hP, h24⟩ := hM
  obtain ⟨⟨a, hX, cc, d, e, g, kq, lq, m, nn⟩, v⟩ := hR
  have hR : jmN S1 X i1 := ⟨⟨a, hX, cc, d, e, g, kq, lq, m, nn⟩, v⟩
  have htc := jtTc_lt (K := jtK X i1)
  have hKi := jtK_lt hX (i := i1)
  have hp1 := jaBn_le (p := p)
  have f1 : jaFr [77] [] S1 (jaUI (jaUI (jaUI (jaUI S1 77 0 to (nI (jaBn p))) 77 0 (to + 1) (nI r)) 77 0 (to + 2) (jvOp t nI)) 77 0 (to + 4) (nI 0)) := (((jaFr.rfl.ui (by decide) (by decide)).ui (by decide) (by decide)).ui (by decide) (by decide)).ui (by decide) (by decide)
  have hP2 : (jaUI (jaUI (jaUI (jaUI S1 77 0 to (nI (jaBn p))) 77 0 (to + 1) (nI r)) 77 0 (to + 2) (jvOp t nI)) 77 0 (to + 4) (nI 0)).1 77 0 = jaPt (jaPt (jaPt (jaPt u1.1 to (nI (jaBn p))) (to + 1) (nI r)) (to + 2) (jvOp t nI)) (to + 4) (nI 0) := by
    rw [jaUI_at, jaUI_at, jaUI_at, jaUI_at, hP]
  apply jb_M_takesStep_9
  simp (disch := first | omega | decide) only [jaU_eq, jaU_U, nI_add, pk_mul, jaIx_nI, vp_inT, true_and, and_true, ↓jaO0, ↓jaO1, nI_z, nI_z2, nI_z3, nI_z4, nI_z5, nI_lt', nI_le', nI_eq', jaUI_at, jaPt_eq, jaPt_ne, jaUI_o, jaUI_2, jaUL_at, jaUL_o, jaUL_1, jaB_z, jaB_1, ↓jaB_01, Classical.not_not, and_self, true_or, or_true, nI_11, Nat.reduceEqDiff, Nat.reduceAdd, Nat.reduceMul, Nat.add_zero, Nat.zero_add, Nat.mul_zero, not_true_eq_false, not_false_eq_true, false_implies, true_implies, h25, h26, g]
  generalize hS2 : jaUI (jaUI (jaUI (jaUI S1 77 0 to (nI (jaBn p))) 77 0 (to + 1) (nI r)) 77 0 (to + 2) (jvOp t nI)) 77 0 (to + 4) (nI 0) = S2 at *
  have R2 : jmN S2 X i1 := hR.f f1 (by decide) (by decide) (fun _ _ => List.not_mem_nil)
  have F2 : jaFr [77] jsG S S2 := f.trans (f1.mono (by decide) (by decide))
  have N : ((p ∧ ¬ (60 ≤ jtK X i1 ∧ jtK X i1 ≤ 62)) ∨ (¬ p ∧ ¬ jtK X i1 = 61)) → jc_M_takesStep_11 D kk x1 x2 (nI to) (jaB p) (jaU σ 20 S2) := by
    intro hN
    apply jb_M_takesStep_11
    refine sp_M_bad (by omega) R2 (fun S3 a3 f3 => ⟨Or.inl rfl, h0 1 i1 ?_ S3 a3 (F2.trans (f3.mono (by decide) (by decide)))⟩)
    unfold jsBd
    rcases hN with ⟨y1, y2⟩ | ⟨y1, y2⟩
    · rw [jaIf1_t y1, jaIf1_f y2]
    · rw [jaIf1_f y1, jaIf1_f y2]
  have Y : ((p ∧ (60 ≤ jtK X i1 ∧ jtK X i1 ≤ 62)) ∨ (¬ p ∧ jtK X i1 = 61)) → jc_M_takesStep_12 D kk x1 x2 (nI to) (jaB p) (jaU σ 20 S2) := by
    intro hY
    have hc : 60 ≤ jtK X i1 ∧ jtK X i1 ≤ 62 := by
      rcases hY with y | y
      · exact y.2
      · omega
    have z17 : S2.1 70 0 17 = nI (jtK X i1) := by
      rw [f1.f 17 List.not_mem_nil]
      exact m (jtTc_s hc.1 hc.2)
    apply jb_M_takesStep_12
    simp (disch := first | omega | decide) only [jaU_eq, jaU_U, nI_add, pk_mul, jaIx_nI, vp_inT, true_and, and_true, ↓jaO0, ↓jaO1, nI_z, nI_z2, nI_z3, nI_z4, nI_z5, nI_lt', nI_le', nI_eq', jaUI_at, jaPt_eq, jaPt_ne, jaUI_o, jaUI_2, jaUL_at, jaUL_o, jaUL_1, jaB_z, jaB_1, ↓jaB_01, Classical.not_not, and_self, true_or, or_true, nI_11, Nat.reduceEqDiff, Nat.reduceAdd, Nat.reduceMul, Nat.add_zero, Nat.zero_add, Nat.mul_zero, not_true_eq_false, not_false_eq_true, false_implies, true_implies, z17]
    have f3 : jaFr [77] [] S2 (jaUI S2 77 0 (to + 3) (nI (jtK X i1))) := jaFr.rfl.ui (by decide) (by decide)
    refine sp_M_next' (by omega) (R2.f f3 (by decide) (by decide) (fun _ _ => List.not_mem_nil)) (fun S4 a4 f4 => ?_)
    have F4 : jaFr [77] jsG S1 S4 := (f1.mono (by decide) (by decide)).trans ((f3.mono (by decide) (by decide)).trans (f4.mono (by decide) (by decide)))
    obtain ⟨w1, w2, w3⟩ := jsHd_W (to := to) (nd := jaBn p) (c := jtK X i1) hw hto hp1 hr hK ht hc.1 hc.2
    have M4 : jsM S4 X nm K (jsHd u1.1 to (jaBn p) r t (jtK X i1), u1.2) (i1 + 1) := by
      refine hM'.x F4 (by decide) (by decide) a4 ?_ ?_
      · rw [f4.s 77 (by decide) (by decide), jaUI_at, hP2]
        rfl
      · rw [f4.f 24 (by decide), f3.f 24 List.not_mem_nil, f1.f 24 List.not_mem_nil]; exact h24
    refine sp_M_takesTerm (l := 0) (k := 0) (to := to) (nm := nm) (K := K) (u := (jsHd u1.1 to (jaBn p) r t (jtK X i1), u1.2)) (i := i1 + 1) (X := X) (by omega) M4 hK w1 hto hto2 (by omega) (by omega) w2.2.2.2.1 (fun u2 i2 e2 S5 a5 f5 => ?_) (fun c q e2 S5 a5 f5 => ?_)
    · obtain ⟨g1, g2, g3, g4, g5, g6⟩ := jsTerm_r hX e2 w1 hK hto (by omega)
      refine ⟨fun _ => ?_, fun z => absurd z (by decide)⟩
      have F5 := f.trans (F4.trans f5)
      by_cases hp : p
      · apply jb_M_takesStep_13
        refine ⟨fun _ => ?_, fun z => ?_⟩
        · apply jb_M_takesStep_16
          refine ⟨Or.inr rfl, h u2 i2 ?_ S5 a5 F5⟩
          unfold jsBd
          rw [jaIf1_t hp, jaIf1_t hc, ← e2, jaBn_t hp]
        · rw [jaB_z] at z
          exact absurd hp z
      · have h61 : jtK X i1 = 61 := hY.elim (fun z => absurd z.1 hp) (fun z => z.2)
        have eB : jsBd X nm K to p u1 r t i1 = jaIf1 (jtK X i2 = 43 ∨ jtK X i2 = 45) (jsTl X nm K to 4 (jaBn (jtK X i2 = 45)) (0 + 1) u2 (i2 + 1)) (.inr (u2, i2)) := by
          unfold jsBd
          rw [jaIf1_f hp, jaIf1_t h61, jsTl]
          rw [jaBn_f hp, h61] at e2
          rw [jwB_i e2]
        rw [eB] at h h0
        rw [jaB_f hp]
        exact jm_tl (by omega) hK hto hto2 4 1 u2 i2 S5 _ rfl (by omega) (by omega) a5 g2 g5 F5 h h0
    · refine ⟨fun z => absurd rfl z, fun _ => h0 c q ?_ S5 a5 (f.trans (F4.trans f5))⟩
      unfold jsBd
      by_cases hp : p
      · rw [jaIf1_t hp, jaIf1_t hc, ← e2, jaBn_t hp]
      · have h61 : jtK X i1 = 61 := hY.elim (fun z => absurd z.1 hp) (fun z => z.2)
        rw [jaIf1_f hp, jaIf1_t h61, jsTl]
        rw [jaBn_f hp, h61] at e2
        rw [jwB_l e2]
  refine ⟨fun q => ?_, fun q => ⟨fun q2 => ?_, fun q2 => ?_⟩⟩
  · refine N ?_
    by_cases hp : p
    · exact Or.inl ⟨hp, fun z => q (jtTc_s z.1 z.2)⟩
    · exact Or.inr ⟨hp, fun z => q (jtTc_s (by omega) (by omega))⟩
  · have z17 : S2.1 70 0 17 = nI (jtK X i1) := by
      rw [f1.f 17 List.not_mem_nil]
      exact m q
    simp (disch := first | omega | decide) only [jaU_eq, jaU_U, nI_add, pk_mul, jaIx_nI, vp_inT, true_and, and_true, ↓jaO0, ↓jaO1, nI_z, nI_z2, nI_z3, nI_z4, nI_z5, nI_lt', nI_le', nI_eq', jaUI_at, jaPt_eq, jaPt_ne, jaUI_o, jaUI_2, jaUL_at, jaUL_o, jaUL_1, jaB_z, jaB_1, ↓jaB_01, Classical.not_not, and_self, true_or, or_true, nI_11, Nat.reduceEqDiff, Nat.reduceAdd, Nat.reduceMul, Nat.add_zero, Nat.zero_add, Nat.mul_zero, not_true_eq_false, not_false_eq_true, false_implies, true_implies, z17, m q]
    refine ⟨fun z => Y (Or.inr ⟨q2, z⟩), fun z => N (Or.inr ⟨q2, z⟩)⟩
  · have z17 : S2.1 70 0 17 = nI (jtK X i1) := by
      rw [f1.f 17 List.not_mem_nil]
      exact m q
    simp (disch := first | omega | decide) only [jaU_eq, jaU_U, nI_add, pk_mul, jaIx_nI, vp_inT, true_and, and_true, ↓jaO0, ↓jaO1, nI_z, nI_z2, nI_z3, nI_z4, nI_z5, nI_lt', nI_le', nI_eq', jaUI_at, jaPt_eq, jaPt_ne, jaUI_o, jaUI_2, jaUL_at, jaUL_o, jaUL_1, jaB_z, jaB_1, ↓jaB_01, Classical.not_not, and_self, true_or, or_true, nI_11, Nat.reduceEqDiff, Nat.reduceAdd, Nat.reduceMul, Nat.add_zero, Nat.zero_add, Nat.mul_zero, not_true_eq_false, not_false_eq_true, false_implies, true_implies, z17, m q]
    refine sp_M_isIn (by omega) ?_
    simp (disch := first | omega | decide) only [jaU_eq, jaU_U, nI_add, pk_mul, jaIx_nI, vp_inT, true_and, and_true, ↓jaO0, ↓jaO1, nI_z, nI_z2, nI_z3, nI_z4, nI_z5, nI_lt', nI_le', nI_eq', jaUI_at, jaPt_eq, jaPt_ne, jaUI_o, jaUI_2, jaUL_at, jaUL_o, jaUL_1, jaB_z, jaB_1, ↓jaB_01, Classical.not_not, and_self, true_or, or_true, nI_11, Nat.reduceEqDiff, Nat.reduceAdd, Nat.reduceMul, Nat.add_zero, Nat.zero_add, Nat.mul_zero, not_true_eq_false, not_false_eq_true, false_implies, true_implies]
    refine ⟨fun z => Y (Or.inl ⟨q2, by omega⟩), fun z => N (Or.inl ⟨q2, fun y => z ⟨by omega, by omega⟩⟩)⟩
end
