section
/-! the class: a TRANS, read -/
theorem jsSs_o {X : jtX} {nm : Nat → Nat} {K i : Nat} {u : jsS} : jsSs X nm K 6 u i = .inl (jsOne X nm K 107 i, i) := by
  unfold jsSs jsStep
  by_cases q : jtK X i = 107
  · rw [jaIf1_t q, jaIf1_t rfl]
    unfold jsOne
    rw [jaIf1_t (Or.inl q)]
    rfl
  · rw [jaIf1_f q, jsGive, jsRef_o (w := 107) rfl q]
    rfl
set_option maxHeartbeats 2000000 in
theorem sp_Sc_readStep {D : Nat} (hD : 6 ≤ D) {kk : Int32 → jaT → Prop} {τ : jaT} {X : jtX} {nm : Nat → Nat} {K n i k st : Nat} {u : jsS} (hk : k ≠ 0) (hR : jtR (τ 0) X i) (hE : jsE K nm (τ k)) (hK : K ≤ 10) (hn : n < 24) (hC : jsC n u (τ k)) (hw : jsW K u) (hst : st ≤ 6) (h56 : (τ k).1 56 0 n = nI st)
    (h : ∀ u' i', jsSs X nm K st u i = .inr (u', i') → ∀ τ', jtR (τ' 0) X i' → jsC n u' (τ' k) → (τ' k).1 56 0 n = nI (st + 1) → jRq ((τ' k).1 59 0) u'.1 (42 * n + 7 * st) (7 + 21 * st) → (∀ m, ¬ (42 * n + 7 * st ≤ m ∧ m < 42 * n + 7 * st + 7) → (τ' k).1 59 0 m = (τ k).1 59 0 m) → jsK0 n k τ τ' → kk (nI 1) τ')
    (h0 : ∀ c p, jsSs X nm K st u i = .inl (c, p) → ∀ τ', jtFl (τ' 0) X c p → jsK0 n k τ τ' → kk (nI 0) τ') :
    jaDe D jy_Sc_readStep [jcSc k, .inr (.inr (2, 0, 0)), jcWo k] τ (jaKi kk) := by
  have hKi := hR.x
  have c0 := hC.1
  obtain ⟨D, rfl, hD⟩ := jaSuc hD
  apply js_Sc_readStep
  simp (disch := first | omega | decide) only [jaU_eq, jaU_U, nI_add, pk_mul, jaIx_nI, vp_inT, true_and, and_true, ↓jaO0, ↓jaO1, nI_z, nI_z2, nI_z3, nI_z4, nI_z5, nI_lt', nI_le', nI_eq', jaUI_at, jaPt_eq, jaPt_ne, jaUI_o, jaUI_2, jaUL_at, jaUL_o, jaUL_1, jaB_z, jaB_1, ↓jaB_01, Classical.not_not, and_self, true_or, or_true, nI_11, Nat.reduceEqDiff, Nat.reduceAdd, Nat.reduceMul, Nat.add_zero, Nat.zero_add, Nat.mul_zero, not_true_eq_false, not_false_eq_true, false_implies, true_implies, c0, h56]
  rw [show (n * 6 + st) * 7 = 42 * n + 7 * st by omega]
  refine ⟨fun q => ?_, fun q => ?_⟩
  · have q6 : ¬ st = 6 := by omega
    -- behind a step
    have T : (∀ y, jsStep X nm K st u i = y → (jwB y fun y => jaIf1 (jtK X y.2 = 59) (.inr (y.1, y.2 + 1)) (.inl (1, y.2))) = jsSs X nm K st u i) := fun y hy => by rw [← hy]; rfl
    have B : ∀ u1 i1 τ1, jsStep X nm K st u i = .inr (u1, i1) → jtR (τ1 0) X i1 → jsC n u1 (τ1 k) → jRq ((τ1 k).1 59 0) u1.1 (42 * n + 7 * st) (7 + 21 * st) → jsK n k (42 * n + 7 * st) τ τ1 → jaDe D jy_Rd_take [.inr (.inr (2, 0, 0)), .inl (nI 59)] τ1 (jaKi fun r6 σ5 => (¬ r6 = 0 → vp_in ((σ5 k).1 54 0 0) 24 ∧ (vp_in ((σ5 k).1 54 0 0) 24 ∧ (let σ7 : jaT := jaU σ5 k (jaUI (σ5 k) 56 0 (jaIx ((σ5 k).1 54 0 0)) (((σ5 k).1 56 0 (jaIx ((σ5 k).1 54 0 0))) + (nI 1))); ((nI 1) = 0 ∨ (nI 1) = 1) ∧ kk (nI 1) σ7))) ∧ (r6 = 0 → ((nI 0) = 0 ∨ (nI 0) = 1) ∧ kk (nI 0) σ5)) := by
      intro u1 i1 τ1 e a1 a2 a3 a4
      have e1 := T _ e
      obtain ⟨b1, b2, b3, b4⟩ := a4
      have g56 : (τ1 k).1 56 0 n = nI st := by rw [b2]; exact h56
      refine sp_Rd_take (c := 59) (by omega) a1 (by omega) (fun q2 S' s1 s2 s3 => ?_) (fun q2 S' s1 s2 s3 => ?_)
      · have f2 : jtF2 τ1 (jaU τ1 0 S') := jtF2.u s1 s2
        have e2 : (jaU τ1 0 S') k = τ1 k := f2.1 k hk
        refine ⟨fun _ => ?_, fun z => absurd z (by decide)⟩
        have c54 := a2.1
        generalize hτ : jaU τ1 0 S' = τ2 at *
        simp (disch := first | omega | decide) only [jaU_eq, jaU_U, nI_add, pk_mul, jaIx_nI, vp_inT, true_and, and_true, ↓jaO0, ↓jaO1, nI_z, nI_z2, nI_z3, nI_z4, nI_z5, nI_lt', nI_le', nI_eq', jaUI_at, jaPt_eq, jaPt_ne, jaUI_o, jaUI_2, jaUL_at, jaUL_o, jaUL_1, jaB_z, jaB_1, ↓jaB_01, Classical.not_not, and_self, true_or, or_true, nI_11, Nat.reduceEqDiff, Nat.reduceAdd, Nat.reduceMul, Nat.add_zero, Nat.zero_add, Nat.mul_zero, not_true_eq_false, not_false_eq_true, false_implies, true_implies, e2, c54, g56]
        refine h u1 (i1 + 1) (by rw [← e1]; exact jaIf1_t q2) _ ?_ ?_ ?_ ?_ ?_ ?_
        · rw [jaU_ne (Ne.symm hk), ← hτ, jaU_eq]; exact s3
        · rw [jaU_eq]
          refine ⟨by simp (disch := first | omega | decide) only [jaU_eq, jaU_U, nI_add, pk_mul, jaIx_nI, vp_inT, true_and, and_true, ↓jaO0, ↓jaO1, nI_z, nI_z2, nI_z3, nI_z4, nI_z5, nI_lt', nI_le', nI_eq', jaUI_at, jaPt_eq, jaPt_ne, jaUI_o, jaUI_2, jaUL_at, jaUL_o, jaUL_1, jaB_z, jaB_1, ↓jaB_01, Classical.not_not, and_self, true_or, or_true, nI_11, Nat.reduceEqDiff, Nat.reduceAdd, Nat.reduceMul, Nat.add_zero, Nat.zero_add, Nat.mul_zero, not_true_eq_false, not_false_eq_true, false_implies, true_implies, c54], ?_, fun j hj => ?_⟩
          · rw [jaUI_o (by decide)]; exact a2.2.1
          · rw [jaUI_o (by decide)]; exact a2.2.2 j hj
        · rw [jaU_eq]
          simp (disch := first | omega | decide) only [jaU_eq, jaU_U, nI_add, pk_mul, jaIx_nI, vp_inT, true_and, and_true, ↓jaO0, ↓jaO1, nI_z, nI_z2, nI_z3, nI_z4, nI_z5, nI_lt', nI_le', nI_eq', jaUI_at, jaPt_eq, jaPt_ne, jaUI_o, jaUI_2, jaUL_at, jaUL_o, jaUL_1, jaB_z, jaB_1, ↓jaB_01, Classical.not_not, and_self, true_or, or_true, nI_11, Nat.reduceEqDiff, Nat.reduceAdd, Nat.reduceMul, Nat.add_zero, Nat.zero_add, Nat.mul_zero, not_true_eq_false, not_false_eq_true, false_implies, true_implies]
        · rw [jaU_eq, jaUI_o (by decide)]; exact a3
        · intro m hm
          rw [jaU_eq, jaUI_o (by decide)]; exact b3 m hm
        · refine ⟨?_, ?_⟩
          · rw [jaU_eq]
            exact b1.ui (by omega)
          · exact b4.trans (f2.c.trans (jcFr.k hk))
      · have f2 : jtF2 τ1 (jaU τ1 0 S') := jtF2.u s1 s2
        refine ⟨fun z => absurd rfl z, fun _ => ⟨Or.inl rfl, h0 1 i1 (by rw [← e1]; exact jaIf1_f q2) _ (by rw [jaU_eq]; exact s3) (jsK0.trans ⟨b1, b4⟩ (jsK0.r hk f2))⟩⟩
    refine sp_Rd_kind (by omega) hR ?_
    simp (disch := first | omega | decide) only [jaU_eq, jaU_U, nI_add, pk_mul, jaIx_nI, vp_inT, true_and, and_true, ↓jaO0, ↓jaO1, nI_z, nI_z2, nI_z3, nI_z4, nI_z5, nI_lt', nI_le', nI_eq', jaUI_at, jaPt_eq, jaPt_ne, jaUI_o, jaUI_2, jaUL_at, jaUL_o, jaUL_1, jaB_z, jaB_1, ↓jaB_01, Classical.not_not, and_self, true_or, or_true, nI_11, Nat.reduceEqDiff, Nat.reduceAdd, Nat.reduceMul, Nat.add_zero, Nat.zero_add, Nat.mul_zero, not_true_eq_false, not_false_eq_true, false_implies, true_implies]
    refine ⟨fun q2 => ?_, fun q2 => ?_⟩
    · have es : jsStep X nm K st u i = jsGive X nm K (7 + 21 * st) (st = 6) u i := jaIf1_f q2
      refine sp_Sc_readGives (full := st = 6) (u := u) (i := i) (nm := nm) (K := K) (n := n) (X := X) (to := 7 + 21 * st) (by omega) hk q6 hR hE hK hn hC hw (by omega) (by omega) (by omega) (fun u1 i1 e τ1 a1 a2 a3 a4 => ?_) (fun c p e τ1 a1 a2 => ?_)
      · refine ⟨fun z => absurd z (by decide), fun _ => ?_⟩
        have := B u1 i1 τ1 (es.trans e) a1 a2 a3 a4
        simp (disch := first | omega | decide) only [jaU_eq, jaU_U, nI_add, pk_mul, jaIx_nI, vp_inT, true_and, and_true, ↓jaO0, ↓jaO1, nI_z, nI_z2, nI_z3, nI_z4, nI_z5, nI_lt', nI_le', nI_eq', jaUI_at, jaPt_eq, jaPt_ne, jaUI_o, jaUI_2, jaUL_at, jaUL_o, jaUL_1, jaB_z, jaB_1, ↓jaB_01, Classical.not_not, and_self, true_or, or_true, nI_11, Nat.reduceEqDiff, Nat.reduceAdd, Nat.reduceMul, Nat.add_zero, Nat.zero_add, Nat.mul_zero, not_true_eq_false, not_false_eq_true, false_implies, true_implies] at this
        exact this
      · refine ⟨fun _ => h0 c p ?_ τ1 a1 a2, fun z => absurd rfl z⟩
        rw [← T _ (es.trans e)]
        rfl
    · have es : jsStep X nm K st u i = jsNeed X nm K (7 + 21 * st) (st = 6) u i := (jaIf1_t q2).trans (jaIf1_f q6)
      refine sp_Sc_readNeed (full := st = 6) (u := u) (i := i) (nm := nm) (K := K) (n := n) (X := X) (to := 7 + 21 * st) (by omega) hk q6 hR hE hK hn hC hw (by omega) (by omega) (by omega) (fun u1 i1 e τ1 a1 a2 a3 a4 a5 a6 a7 => ?_) (fun c p e τ1 a1 a2 a3 => ?_)
      · refine ⟨fun z => absurd z (by decide), fun _ => ?_⟩
        have := B u1 i1 τ1 (es.trans e) a1 a2 a5 ⟨a3, a4, a6, a7⟩
        simp (disch := first | omega | decide) only [jaU_eq, jaU_U, nI_add, pk_mul, jaIx_nI, vp_inT, true_and, and_true, ↓jaO0, ↓jaO1, nI_z, nI_z2, nI_z3, nI_z4, nI_z5, nI_lt', nI_le', nI_eq', jaUI_at, jaPt_eq, jaPt_ne, jaUI_o, jaUI_2, jaUL_at, jaUL_o, jaUL_1, jaB_z, jaB_1, ↓jaB_01, Classical.not_not, and_self, true_or, or_true, nI_11, Nat.reduceEqDiff, Nat.reduceAdd, Nat.reduceMul, Nat.add_zero, Nat.zero_add, Nat.mul_zero, not_true_eq_false, not_false_eq_true, false_implies, true_implies] at this
        exact this
      · refine ⟨fun _ => h0 c p ?_ τ1 a1 ⟨a2, a3⟩, fun z => absurd rfl z⟩
        rw [← T _ (es.trans e)]
        rfl
  · have q6 : st = 6 := by omega
    subst q6
    refine sp_Sc_failOneMore (nm := nm) (K := K) (by omega) hk hR hE hK (by omega) (fun τ' a b => ⟨Or.inl rfl, h0 _ _ jsSs_o τ' a (jsK0.r hk b)⟩)
set_option maxHeartbeats 2000000 in
theorem sp_Sc_read {D : Nat} (hD : 7 ≤ D) {kk : Int32 → jaT → Prop} {τ : jaT} {X : jtX} {nm : Nat → Nat} {K n k : Nat} {P : jvA} {x : Int32} (hk : k ≠ 0) (hR : jtR (τ 0) X 0) (hE : jsE K nm (τ k)) (hK : K ≤ 10) (hn : n < 24) (h54 : (τ k).1 54 0 0 = nI n)
    (h : ∀ u' n', jsAll X nm K 7 0 (P, 0) 0 = .inr (u', n') → ∀ τ', jsC n u' (τ' k) → (τ' k).1 56 0 n = nI n' → (∀ q, q < n' → jRq ((τ' k).1 59 0) u'.1 (42 * n + 7 * q) (7 + 21 * q)) → jsF n (jaUI (τ k) 55 0 n x) (τ' k) → jcFr k τ τ' → kk (nI 1) τ')
    (h0 : ∀ c p, jsAll X nm K 7 0 (P, 0) 0 = .inl (c, p) → ∀ τ', jtFl (τ' 0) X c p → jsF n (jaUI (τ k) 55 0 n x) (τ' k) → jcFr k τ τ' → kk (nI 0) τ') :
    jaDe D jy_Sc_read [jcSc k, .inr (.inr (2, 0, 0)), jcWo k, .inl x] τ (jaKi kk) := by
  have hX := hR.1
  obtain ⟨D, rfl, hD⟩ := jaSuc hD
  apply js_Sc_read
  obtain ⟨S, hS⟩ : ∃ S, S = τ k := ⟨_, rfl⟩
  have eτ : τ = jaU τ k S := by rw [hS, jaU_self]
  have is : jaDe D jy_Sc_isFull [jcSc k] (jaU τ k S) (jaKi fun r2 σ1 => (r2 = 0 → vp_in ((σ1 k).1 54 0 0) 24 ∧ (let σ3 : jaT := jaU σ1 k (jaUI (σ1 k) 55 0 (jaIx ((σ1 k).1 54 0 0)) x); vp_in ((σ3 k).1 54 0 0) 24 ∧ (let σ4 : jaT := jaU σ3 k (jaUI (σ3 k) 56 0 (jaIx ((σ3 k).1 54 0 0)) (nI 0)); vp_in ((σ4 k).1 54 0 0) 24 ∧ (let σ5 : jaT := jaU σ4 k (jaUI (σ4 k) 57 0 (jaIx ((σ4 k).1 54 0 0)) (nI 0)); jc_Sc_read_2 D kk k k x (nI 0) σ5)))) ∧ (¬ r2 = 0 → jaDe D jy_Rd_fail [.inr (.inr (2, 0, 0)), .inl (nI 4)] σ1 (jaKi fun r7 σ6 => (r7 = 0 ∨ r7 = 1) ∧ kk r7 σ6))) := by
    rw [← hS] at h54
    refine sp_Sc_isFull (by omega) h54 (by omega) ?_
    simp (disch := first | omega | decide) only [jaU_eq, jaU_U, nI_add, pk_mul, jaIx_nI, vp_inT, true_and, and_true, ↓jaO0, ↓jaO1, nI_z, nI_z2, nI_z3, nI_z4, nI_z5, nI_lt', nI_le', nI_eq', jaUI_at, jaPt_eq, jaPt_ne, jaUI_o, jaUI_2, jaUL_at, jaUL_o, jaUL_1, jaB_z, jaB_1, ↓jaB_01, Classical.not_not, and_self, true_or, or_true, nI_11, Nat.reduceEqDiff, Nat.reduceAdd, Nat.reduceMul, Nat.add_zero, Nat.zero_add, Nat.mul_zero, not_true_eq_false, not_false_eq_true, false_implies, true_implies, h54]
    -- the steps
    have L : ∀ m st u i τ1, st + m = 7 → 1 ≤ m → jtR (τ1 0) X i → jsC n u (τ1 k) → jsW K u → (τ1 k).1 56 0 n = nI st → (∀ q, q < st → jRq ((τ1 k).1 59 0) u.1 (42 * n + 7 * q) (7 + 21 * q)) → (∀ q, q < st → jWt K u.2 u.1 (7 + 21 * q)) → jsF n (jaUI (τ k) 55 0 n x) (τ1 k) → jcFr k τ τ1 →
        (∀ u' n', jsAll X nm K m st u i = .inr (u', n') → ∀ τ', jsC n u' (τ' k) → (τ' k).1 56 0 n = nI n' → (∀ q, q < n' → jRq ((τ' k).1 59 0) u'.1 (42 * n + 7 * q) (7 + 21 * q)) → jsF n (jaUI (τ k) 55 0 n x) (τ' k) → jcFr k τ τ' → kk (nI 1) τ') →
        (∀ c p, jsAll X nm K m st u i = .inl (c, p) → ∀ τ', jtFl (τ' 0) X c p → jsF n (jaUI (τ k) 55 0 n x) (τ' k) → jcFr k τ τ' → kk (nI 0) τ') → jc_Sc_read_2 D kk k k x (nI st) τ1 := by
      intro m
      induction m with
      | zero => intro st u i τ1 _ h1; exact absurd h1 (by omega)
      | succ m ih =>
        intro st u i τ1 hm _ hR1 hC1 hw1 h56 hq1 ht1 hF1 hG1 h h0
        have hKi := hR1.x
        have hE1 : jsE K nm (τ1 k) := by
          refine jsE.f (T := jaUI (τ k) 55 0 n x) ⟨fun j hj => ?_, ?_⟩ hF1
          · rw [jaUI_2]; exact hE.1 j hj
          · rw [jaUI_o (by decide)]; exact hE.2
        rw [jsAll] at h h0
        apply jb_Sc_read_2
        have ST : ¬ (0 < st ∧ jtK X i = 1) → jaDe D jy_Sc_readStep [jcSc k, .inr (.inr (2, 0, 0)), jcWo k] τ1 (jaKi fun r2 σ1 => (¬ r2 = 0 → jc_Sc_read_2 D kk k k x (nI (st + 1)) σ1) ∧ (r2 = 0 → kk (nI 0) σ1)) := by
          intro q
          rw [jaIf1_f q] at h h0
          refine sp_Sc_readStep (st := st) (u := u) (i := i) (nm := nm) (K := K) (n := n) (X := X) (by omega) hk hR1 hE1 hK hn hC1 hw1 (by omega) h56 (fun u' i' e τ2 a1 a2 a3 a4 a5 a6 => ?_) (fun c p e τ2 a1 a2 => ?_)
          · rw [jwB_i e] at h h0
            obtain ⟨g1, g2, g3, g4, g5⟩ := jsSs_r hX e hw1 hK
            refine ⟨fun _ => ?_, fun z => absurd z (by decide)⟩
            refine ih (st + 1) u' i' τ2 (by omega) (by omega) a1 a2 g2 a3 (fun q hq => ?_) (fun q hq => ?_) (hF1.trans a6.1) (hG1.trans a6.2) h h0
            · by_cases y : q = st
              · rw [y]; exact a4
              · exact jRq_m (fun j hj => a5 _ (by omega)) (fun j hj => g5 _ (by omega) (by omega)) (ht1 q (by omega)).2.2.2.1.2 (hq1 q (by omega))
            · by_cases y : q = st
              · rw [y]; exact g4
              · exact jWt_a g3 (fun j hj => g5 _ (by omega) (by omega)) (ht1 q (by omega))
          · rw [jwB_l e] at h0
            exact ⟨fun z => absurd rfl z, fun _ => h0 c p rfl τ2 a1 (hF1.trans a2.1) (hG1.trans a2.2)⟩
        simp (disch := first | omega | decide) only [jaU_eq, jaU_U, nI_add, pk_mul, jaIx_nI, vp_inT, true_and, and_true, ↓jaO0, ↓jaO1, nI_z, nI_z2, nI_z3, nI_z4, nI_z5, nI_lt', nI_le', nI_eq', jaUI_at, jaPt_eq, jaPt_ne, jaUI_o, jaUI_2, jaUL_at, jaUL_o, jaUL_1, jaB_z, jaB_1, ↓jaB_01, Classical.not_not, and_self, true_or, or_true, nI_11, Nat.reduceEqDiff, Nat.reduceAdd, Nat.reduceMul, Nat.add_zero, Nat.zero_add, Nat.mul_zero, not_true_eq_false, not_false_eq_true, false_implies, true_implies]
        refine ⟨fun z => absurd z (by omega), fun _ => ⟨fun z => ?_, fun z => ?_⟩⟩
        · exact ST (fun y => by omega)
        · refine sp_Rd_kind (by omega) hR1 ?_
          simp (disch := first | omega | decide) only [jaU_eq, jaU_U, nI_add, pk_mul, jaIx_nI, vp_inT, true_and, and_true, ↓jaO0, ↓jaO1, nI_z, nI_z2, nI_z3, nI_z4, nI_z5, nI_lt', nI_le', nI_eq', jaUI_at, jaPt_eq, jaPt_ne, jaUI_o, jaUI_2, jaUL_at, jaUL_o, jaUL_1, jaB_z, jaB_1, ↓jaB_01, Classical.not_not, and_self, true_or, or_true, nI_11, Nat.reduceEqDiff, Nat.reduceAdd, Nat.reduceMul, Nat.add_zero, Nat.zero_add, Nat.mul_zero, not_true_eq_false, not_false_eq_true, false_implies, true_implies]
          refine ⟨fun y => ST (fun v => y v.2), fun y => ?_⟩
          rw [jaIf1_t ⟨by omega, y⟩] at h
          exact h u st rfl τ1 hC1 h56 hq1 hF1 hG1
    refine ⟨fun _ => ?_, fun z => absurd hn z⟩
    refine L 7 0 (P, 0) 0 _ rfl (by omega) ?_ ⟨?_, ?_, fun j hj => absurd (show j < 0 from hj) (by omega)⟩ ⟨Nat.zero_le _, fun j hj => absurd (show j < 0 from hj) (by omega)⟩ ?_ (fun q hq => absurd hq (by omega)) (fun q hq => absurd hq (by omega)) ?_ ?_ h h0
    · rw [jaU_ne (Ne.symm hk)]; exact hR
    · rw [jaU_eq]
      simp (disch := first | omega | decide) only [jaU_eq, jaU_U, nI_add, pk_mul, jaIx_nI, vp_inT, true_and, and_true, ↓jaO0, ↓jaO1, nI_z, nI_z2, nI_z3, nI_z4, nI_z5, nI_lt', nI_le', nI_eq', jaUI_at, jaPt_eq, jaPt_ne, jaUI_o, jaUI_2, jaUL_at, jaUL_o, jaUL_1, jaB_z, jaB_1, ↓jaB_01, Classical.not_not, and_self, true_or, or_true, nI_11, Nat.reduceEqDiff, Nat.reduceAdd, Nat.reduceMul, Nat.add_zero, Nat.zero_add, Nat.mul_zero, not_true_eq_false, not_false_eq_true, false_implies, true_implies, h54]
    · rw [jaU_eq]
      simp (disch := first | omega | decide) only [jaU_eq, jaU_U, nI_add, pk_mul, jaIx_nI, vp_inT, true_and, and_true, ↓jaO0, ↓jaO1, nI_z, nI_z2, nI_z3, nI_z4, nI_z5, nI_lt', nI_le', nI_eq', jaUI_at, jaPt_eq, jaPt_ne, jaUI_o, jaUI_2, jaUL_at, jaUL_o, jaUL_1, jaB_z, jaB_1, ↓jaB_01, Classical.not_not, and_self, true_or, or_true, nI_11, Nat.reduceEqDiff, Nat.reduceAdd, Nat.reduceMul, Nat.add_zero, Nat.zero_add, Nat.mul_zero, not_true_eq_false, not_false_eq_true, false_implies, true_implies]
    · rw [jaU_eq]
      simp (disch := first | omega | decide) only [jaU_eq, jaU_U, nI_add, pk_mul, jaIx_nI, vp_inT, true_and, and_true, ↓jaO0, ↓jaO1, nI_z, nI_z2, nI_z3, nI_z4, nI_z5, nI_lt', nI_le', nI_eq', jaUI_at, jaPt_eq, jaPt_ne, jaUI_o, jaUI_2, jaUL_at, jaUL_o, jaUL_1, jaB_z, jaB_1, ↓jaB_01, Classical.not_not, and_self, true_or, or_true, nI_11, Nat.reduceEqDiff, Nat.reduceAdd, Nat.reduceMul, Nat.add_zero, Nat.zero_add, Nat.mul_zero, not_true_eq_false, not_false_eq_true, false_implies, true_implies]
    · rw [jaU_eq, ← hS]
      exact (jsF.rfl.ui (by omega)).ui (by omega)
    · exact jcFr.k hk
  rw [← eτ] at is
  exact is
end
