section
/-! the reference: what comes behind an operand -/
theorem jgMp (xs : List Nat) : (xs.map jgQ).length = xs.length := List.length_map ..
set_option maxHeartbeats 4000000 in
theorem jm_op {D : Nat} (hD : 6 ≤ D) {kk : Int32 → jaT → Prop} {σ : jaT} {S : jaS} {X : jtX} {i o d w tok : Nat} {l : List jbY} {zs xs stk : List Nat} (hw : (w = 21 ∧ tok = 114) ∨ (w = 22 ∧ tok = 113)) (hz : ∀ c, c ∈ zs → c = 20) (hx : ∀ c, c ∈ xs → c = 21 ∨ (c = 22 ∧ w = 22)) (hh : ∀ c r, stk = c :: r → c ≠ 20 ∧ ¬ (c = 21 ∨ (c = 22 ∧ w = 22))) (hR : jmN S X i) (hK : jtK X i = tok) (hM : jgM S l o (zs ++ (xs ++ stk)) (d + zs.length) 1) (hl : l.length + zs.length + xs.length ≤ 43) (hs : (zs ++ (xs ++ stk)).length ≤ 44) (hd : d < 100)
    (h : ∀ S', jmN S' X (i + 1) → jgM S' (l ++ zs.map jgQ ++ xs.map jgQ) o (w :: stk) d 0 → jaFr jgH jgG S S' → jc_M_sentence_1 D kk (nI 1) (jaU σ 20 S')) : jc_M_sentence_1 D kk (nI 1) (jaU σ 20 S) := by
  have e14 : S.1 70 0 14 = nI (jtTc (jtK X i)) := hR.1.2.2.2.2.2.1
  have etc : jtTc (jtK X i) = 1 := jtTc_w.mpr (Or.inr (by omega))
  have e49 : S.1 70 0 49 = nI 1 := hM.2.2.2.2.2
  have h44 : (xs ++ stk).length ≤ 44 := by
    rw [List.length_append] at hs
    omega
  have h43 : stk.length < 45 := by
    rw [List.length_append] at h44
    omega
  have B : jaDe D jy_M_behind [jaMo] (jaU σ 20 S) (jaKi fun r9 σ8 => (¬ r9 = 0 → jc_M_sentence_1 D kk (nI 1) σ8) ∧ (r9 = 0 → kk ((-1 : Int32) - ((σ8 20).1 70 0 19)) σ8)) := by
    obtain ⟨D2, rfl, hD2⟩ := jaSuc (show 5 + 1 ≤ D by omega)
    apply js_M_behind
    refine sp_M_nots (S := S) (s := xs ++ stk) (o := o) (d := d) (w := 1) (by omega) (fun c t e => ?_) (by omega) zs l S hz hM (by omega) hs jaFr.rfl (fun S1 m1 f1 => ?_)
    · rcases xs with _ | ⟨y, ys⟩
      · exact (hh c t e).1
      · cases e
        rcases hx c List.mem_cons_self with z | z <;> omega
    have R1 : jmN S1 X i := hR.f f1 (by decide) (by decide) (by decide)
    have B3 : ∀ σ', σ' = jaU σ 20 S1 → jc_M_behind_3 D2 (fun r9 σ8 => (¬ r9 = 0 → jc_M_sentence_1 (D2 + 1) kk (nI 1) σ8) ∧ (r9 = 0 → kk ((-1 : Int32) - ((σ8 20).1 70 0 19)) σ8)) (nI w) σ' := by
      rintro σ' rfl
      apply jb_M_behind_3
      refine sp_M_joins (S := S1) (s := stk) (o := o) (d := d) (w := 1) (t := w) (by omega) (by omega) (fun c r e => (hh c r e).2) xs (l ++ zs.map jgQ) S1 hx m1 (by rw [List.length_append, jgMp]; omega) h44 jaFr.rfl (fun S2 m2 f2 => ?_)
      have R2 : jmN S2 X i := R1.f f2 (by decide) (by decide) (by decide)
      have B5 : jc_M_behind_5 D2 (fun r9 σ8 => (¬ r9 = 0 → jc_M_sentence_1 (D2 + 1) kk (nI 1) σ8) ∧ (r9 = 0 → kk ((-1 : Int32) - ((σ8 20).1 70 0 19)) σ8)) (S2.1 70 0 47) (nI w) (jaU σ 20 S2) := by
        obtain ⟨n45, nr, n46, ns, n48, n49⟩ := m2
        apply jb_M_behind_5
        rw [ns.1]
        simp (disch := first | omega | decide) only [jaU_eq, jaU_U, nI_add, pk_mul, jaIx_nI, vp_inT, true_and, and_true, ↓jaO0, ↓jaO1, nI_z, nI_z2, nI_z3, nI_z4, nI_z5, nI_lt', nI_le', nI_eq', jaUI_at, jaPt_eq, jaPt_ne, jaUI_o, jaUI_2, jaUL_at, jaUL_o, jaUL_1, jaB_z, jaB_1, ↓jaB_01, Classical.not_not, and_self, true_or, or_true, nI_11, Nat.reduceEqDiff, Nat.reduceAdd, Nat.reduceMul, Nat.add_zero, Nat.zero_add, Nat.mul_zero, not_true_eq_false, not_false_eq_true, false_implies, true_implies, ns.1]
        have f3 : jaFr [89] [47, 49] S2 (jaUI (jaUI (jaUI S2 89 0 stk.length (nI w)) 70 0 47 (nI (stk.length + 1))) 70 0 49 (nI 0)) := ((jaFr.rfl.ui (by decide) (by decide)).uf (by decide)).uf (by decide)
        have m3 : jgM (jaUI (jaUI (jaUI S2 89 0 stk.length (nI w)) 70 0 47 (nI (stk.length + 1))) 70 0 49 (nI 0)) (l ++ zs.map jgQ ++ xs.map jgQ) o (w :: stk) d 0 := by
          refine ⟨?_, ?_, ?_, ?_, ?_, ?_⟩
          · rw [f3.f 45 (by decide)]; exact n45
          · rw [f3.s 74 (by decide) (by decide)]; exact nr
          · rw [f3.f 46 (by decide)]; exact n46
          · refine ns.push ?_ ?_ (by omega)
            · simp (disch := first | omega | decide) only [jaU_eq, jaU_U, nI_add, pk_mul, jaIx_nI, vp_inT, true_and, and_true, ↓jaO0, ↓jaO1, nI_z, nI_z2, nI_z3, nI_z4, nI_z5, nI_lt', nI_le', nI_eq', jaUI_at, jaPt_eq, jaPt_ne, jaUI_o, jaUI_2, jaUL_at, jaUL_o, jaUL_1, jaB_z, jaB_1, ↓jaB_01, Classical.not_not, and_self, true_or, or_true, nI_11, Nat.reduceEqDiff, Nat.reduceAdd, Nat.reduceMul, Nat.add_zero, Nat.zero_add, Nat.mul_zero, not_true_eq_false, not_false_eq_true, false_implies, true_implies]
            · rw [jaUI_o (by decide), jaUI_o (by decide), jaUI_at]
          · rw [f3.f 48 (by decide)]; exact n48
          · simp (disch := first | omega | decide) only [jaU_eq, jaU_U, nI_add, pk_mul, jaIx_nI, vp_inT, true_and, and_true, ↓jaO0, ↓jaO1, nI_z, nI_z2, nI_z3, nI_z4, nI_z5, nI_lt', nI_le', nI_eq', jaUI_at, jaPt_eq, jaPt_ne, jaUI_o, jaUI_2, jaUL_at, jaUL_o, jaUL_1, jaB_z, jaB_1, ↓jaB_01, Classical.not_not, and_self, true_or, or_true, nI_11, Nat.reduceEqDiff, Nat.reduceAdd, Nat.reduceMul, Nat.add_zero, Nat.zero_add, Nat.mul_zero, not_true_eq_false, not_false_eq_true, false_implies, true_implies]
        refine sp_M_next' (by omega) (R2.f f3 (by decide) (by decide) (by decide)) (fun S4 a4 f4 => ?_)
        have hg := h S4 a4 (m3.f f4 (by decide) (by decide) (by decide)) ((f1.mono (by decide) (by decide)).trans ((f2.mono (by decide) (by decide)).trans ((f3.mono (by decide) (by decide)).trans (f4.mono (by decide) (by decide)))))
        exact hg
      refine sp_M_isWord (n := 14) (by omega) R2 (by omega) (by decide +kernel) ?_
      rw [jaU_eq]
      refine ⟨fun z => ?_, fun z => ?_⟩
      · rw [jaB_z] at z
        rw [show (22 : Nat) = w by omega]
        exact B5
      · rw [jaB_z] at z
        rw [show (21 : Nat) = w by omega]
        exact B5
    have B1 : jc_M_behind_1 D2 (fun r9 σ8 => (¬ r9 = 0 → jc_M_sentence_1 (D2 + 1) kk (nI 1) σ8) ∧ (r9 = 0 → kk ((-1 : Int32) - ((σ8 20).1 70 0 19)) σ8)) (jaU σ 20 S1) := by
      apply jb_M_behind_1
      refine sp_M_isWord (n := 14) (by omega) R1 (by omega) (by decide +kernel) ?_
      refine ⟨fun z => ?_, fun z => ?_⟩
      · rw [jaB_z] at z
        have := B3 _ rfl
        rwa [show w = 22 by omega] at this
      · rw [jaB_z] at z
        have := B3 _ rfl
        rwa [show w = 21 by omega] at this
    refine sp_M_isWord (n := 14) (by omega) R1 (by omega) (by decide +kernel) ?_
    refine ⟨fun _ => B1, fun z => ?_⟩
    rw [jaB_z] at z
    refine sp_M_isWord (n := 13) (by omega) R1 (by omega) (by decide +kernel) ?_
    refine ⟨fun z2 => ?_, fun _ => B1⟩
    rw [jaB_z] at z2
    exact absurd (by omega) z2
  apply jb_M_sentence_1
  rw [jaU_eq, e49, e14, etc]
  refine ⟨fun z => absurd z (by decide), fun _ => ⟨fun z => absurd z (by decide), fun _ => ⟨fun _ => ⟨fun z => absurd z (by decide), fun _ => B⟩, fun z => absurd z (by decide)⟩⟩⟩
set_option maxHeartbeats 4000000 in
theorem jm_end {D : Nat} (hD : 6 ≤ D) {kk : Int32 → jaT → Prop} {σ : jaT} {S : jaS} {X : jtX} {i o d : Nat} {l : List jbY} {zs xs stk : List Nat} (hz : ∀ c, c ∈ zs → c = 20) (hx : ∀ c, c ∈ xs → c = 21 ∨ c = 22) (hh : ∀ c r, stk = c :: r → c = 23) (hR : jmN S X i) (hK : jtK X i ≠ 114 ∧ jtK X i ≠ 113) (hM : jgM S l o (zs ++ (xs ++ stk)) (d + zs.length) 1) (hl : l.length + zs.length + xs.length ≤ 44) (hs : (zs ++ (xs ++ stk)).length ≤ 44) (hd : d < 100) (hd1 : 1 ≤ d)
    (hfin : jtK X i = 1 → stk = [] → ∀ S', jgM S' (l ++ zs.map jgQ ++ xs.map jgQ) o [] d 1 → jmN S' X i → jaFr jgH jgG S S' → jc_M_sentence_1 D kk (nI 0) (jaU σ 20 S'))
    (hpop : jtK X i = 41 → ∀ r, stk = 23 :: r → ∀ S', jmN S' X (i + 1) → jgM S' (l ++ zs.map jgQ ++ xs.map jgQ) o r (d - 1) 1 → jaFr jgH jgG S S' → jc_M_sentence_1 D kk (nI 1) (jaU σ 20 S'))
    (hbad : ¬ (jtK X i = 1 ∧ stk = []) → ¬ (jtK X i = 41 ∧ stk ≠ []) → ∀ S', jmFl S' X 1 i → jaFr jgH jgG S S' → kk ((-1) - nI (jtAt X i)) (jaU σ 20 S')) :
    jc_M_sentence_1 D kk (nI 1) (jaU σ 20 S) := by
  have e14 : S.1 70 0 14 = nI (jtTc (jtK X i)) := hR.1.2.2.2.2.2.1
  have htc := jtTc_lt (K := jtK X i)
  have e49 : S.1 70 0 49 = nI 1 := hM.2.2.2.2.2
  have h44 : (xs ++ stk).length ≤ 44 := by
    rw [List.length_append] at hs
    omega
  have h43 : stk.length < 45 := by
    rw [List.length_append] at h44
    omega
  -- all ahead is done
  have N1 : ∀ (D : Nat) (P : jaT → Prop), 3 ≤ D → (∀ S1, jgM S1 (l ++ zs.map jgQ) o (xs ++ stk) d 1 → jaFr [74] [45, 47, 48] S S1 → P (jaU σ 20 S1)) → jaDe D jy_M_nots [jaMo] (jaU σ 20 S) (jaKv P) := by
    intro D P hD hP
    refine sp_M_nots (S := S) (s := xs ++ stk) (o := o) (d := d) (w := 1) (by omega) (fun c t e => ?_) (by omega) zs l S hz hM (by omega) hs jaFr.rfl (fun S1 m1 f1 => hP S1 m1 f1)
    rcases xs with _ | ⟨y, ys⟩
    · have := hh c t e
      omega
    · cases e
      rcases hx c List.mem_cons_self with z | z <;> omega
  have N2 : ∀ (D : Nat) (kv : jaT → Prop) (S1 : jaS), 3 ≤ D → jgM S1 (l ++ zs.map jgQ) o (xs ++ stk) d 1 → jaFr [74] [45, 47, 48] S S1 → (∀ S2, jgM S2 (l ++ zs.map jgQ ++ xs.map jgQ) o stk d 1 → jaFr [74] [45, 47, 48] S S2 → kv (jaU σ 20 S2)) → jaDe D jy_M_joins [jaMo, .inl (nI 22)] (jaU σ 20 S1) (jaKv kv) := by
    intro D kv S1 hD m1 f1 hv
    refine sp_M_joins (S := S1) (s := stk) (o := o) (d := d) (w := 1) (t := 22) (by omega) (by omega) (fun c r e => ?_) xs (l ++ zs.map jgQ) S1 (fun c hc => (hx c hc).imp (fun z => z) (fun z => ⟨z, rfl⟩)) m1 (by rw [List.length_append, jgMp]; omega) h44 jaFr.rfl (fun S2 m2 f2 => hv S2 m2 (f1.trans f2))
    have := hh c r e
    omega
  apply jb_M_sentence_1
  rw [jaU_eq, e49, e14, show (nI (jtTc (jtK X i)) = 0) = (jtK X i = 1) from by rw [nI_z (by omega)]; exact propext jtTc_0]
  refine ⟨fun z => absurd z (by decide), fun _ => ⟨fun z => absurd z (by decide), fun _ => ⟨fun q1 => ⟨fun z => absurd z (by decide), fun _ => ?_⟩, fun q1 => ?_⟩⟩⟩
  · obtain ⟨D2, rfl, hD2⟩ := jaSuc (show 5 + 1 ≤ D by omega)
    apply js_M_behind
    refine N1 _ _ (by omega) (fun S1 m1 f1 => ?_)
    have R1 : jmN S1 X i := hR.f f1 (by decide) (by decide) (by decide)
    refine sp_M_isWord (n := 14) (by omega) R1 (by omega) (by decide +kernel) ?_
    refine ⟨fun z => ?_, fun _ => ?_⟩
    · rw [jaB_z] at z
      exact absurd (Classical.not_not.mp z) (by omega)
    refine sp_M_isWord (n := 13) (by omega) R1 (by omega) (by decide +kernel) ?_
    refine ⟨fun _ => ?_, fun z => ?_⟩
    rotate_left
    · rw [jaB_z] at z
      exact absurd (Classical.not_not.mp z) (by omega)
    · refine N2 _ _ S1 (by omega) m1 f1 (fun S2 m2 f2 => ?_)
      have R2 : jmN S2 X i := hR.f f2 (by decide) (by decide) (by decide)
      have F2 : jaFr jgH jgG S S2 := f2.mono (by decide) (by decide)
      obtain ⟨n45, nr, n46, ns, n48, n49⟩ := m2
      refine sp_M_isSign (by omega) R2 (by omega) (by decide) ?_
      have B7 : ¬ (jtK X i = 41 ∧ stk ≠ []) → jc_M_behind_7 D2 (fun r9 σ8 => (¬ r9 = 0 → jc_M_sentence_1 (D2 + 1) kk (nI 1) σ8) ∧ (r9 = 0 → kk ((-1 : Int32) - ((σ8 20).1 70 0 19)) σ8)) (jaU σ 20 S2) := by
        intro q
        apply jb_M_behind_7
        refine sp_M_bad (by omega) R2 (fun S3 a3 f3 => ⟨Or.inl rfl, fun z => absurd rfl z, fun _ => ?_⟩)
        rw [jaU_eq, a3.2]
        exact hbad (fun z => q1 z.1) q S3 a3 (F2.trans (f3.mono (by decide) (by decide)))
      refine ⟨fun z => ?_, fun z => ?_⟩
      · rw [jaB_z] at z
        exact B7 (fun y => z y.1)
      · rw [jaB_z] at z
        have q41 := Classical.not_not.mp z
        rw [jaU_eq, ns.1]
        rcases hst : stk with _ | ⟨c, r⟩
        · refine ⟨fun y => absurd rfl y, fun _ => B7 (fun y => y.2 hst)⟩
        · have hc := hh c r hst
          subst hc
          have h43' : r.length + 1 < 45 := by
            rw [hst] at h43
            exact h43
          refine ⟨fun _ => ?_, fun y => absurd y (by rw [List.length_cons, nI_z (by omega)]; omega)⟩
          have n47 : S2.1 70 0 47 = nI (r.length + 1) := by
            rw [ns.1, hst]
            rfl
          rw [hst] at ns
          simp (disch := first | omega | decide) only [jaU_eq, jaU_U, nI_add, pk_mul, jaIx_nI, vp_inT, true_and, and_true, ↓jaO0, ↓jaO1, nI_z, nI_z2, nI_z3, nI_z4, nI_z5, nI_lt', nI_le', nI_eq', jaUI_at, jaPt_eq, jaPt_ne, jaUI_o, jaUI_2, jaUL_at, jaUL_o, jaUL_1, jaB_z, jaB_1, ↓jaB_01, Classical.not_not, and_self, true_or, or_true, nI_11, Nat.reduceEqDiff, Nat.reduceAdd, Nat.reduceMul, Nat.add_zero, Nat.zero_add, Nat.mul_zero, not_true_eq_false, not_false_eq_true, false_implies, true_implies, n47, n48, List.length_cons, nI_sub, Nat.add_sub_cancel]
          have f3 : jaFr [] [47, 48] S2 (jaUI (jaUI S2 70 0 47 (nI r.length)) 70 0 48 (nI (d - 1))) := (jaFr.rfl.uf (by decide)).uf (by decide)
          have m3 : jgM (jaUI (jaUI S2 70 0 47 (nI r.length)) 70 0 48 (nI (d - 1))) (l ++ zs.map jgQ ++ xs.map jgQ) o r (d - 1) 1 := by
            refine ⟨?_, ?_, ?_, ?_, ?_, ?_⟩
            · rw [f3.f 45 (by decide)]; exact n45
            · rw [f3.s 74 (by decide) (by decide)]; exact nr
            · rw [f3.f 46 (by decide)]; exact n46
            · exact ns.pop (by simp (disch := first | omega | decide) only [jaU_eq, jaU_U, nI_add, pk_mul, jaIx_nI, vp_inT, true_and, and_true, ↓jaO0, ↓jaO1, nI_z, nI_z2, nI_z3, nI_z4, nI_z5, nI_lt', nI_le', nI_eq', jaUI_at, jaPt_eq, jaPt_ne, jaUI_o, jaUI_2, jaUL_at, jaUL_o, jaUL_1, jaB_z, jaB_1, ↓jaB_01, Classical.not_not, and_self, true_or, or_true, nI_11, Nat.reduceEqDiff, Nat.reduceAdd, Nat.reduceMul, Nat.add_zero, Nat.zero_add, Nat.mul_zero, not_true_eq_false, not_false_eq_true, false_implies, true_implies]) (by rw [f3.s 89 (by decide) (by decide)])
            · simp (disch := first | omega | decide) only [jaU_eq, jaU_U, nI_add, pk_mul, jaIx_nI, vp_inT, true_and, and_true, ↓jaO0, ↓jaO1, nI_z, nI_z2, nI_z3, nI_z4, nI_z5, nI_lt', nI_le', nI_eq', jaUI_at, jaPt_eq, jaPt_ne, jaUI_o, jaUI_2, jaUL_at, jaUL_o, jaUL_1, jaB_z, jaB_1, ↓jaB_01, Classical.not_not, and_self, true_or, or_true, nI_11, Nat.reduceEqDiff, Nat.reduceAdd, Nat.reduceMul, Nat.add_zero, Nat.zero_add, Nat.mul_zero, not_true_eq_false, not_false_eq_true, false_implies, true_implies]
            · rw [f3.f 49 (by decide)]; exact n49
          refine sp_M_next' (by omega) (R2.f f3 (by decide) (by decide) (by decide)) (fun S4 a4 f4 => ?_)
          have hg := hpop q41 r hst S4 a4 (m3.f f4 (by decide) (by decide) (by decide)) (F2.trans ((f3.mono (by decide) (by decide)).trans (f4.mono (by decide) (by decide))))
          exact hg
  · refine N1 _ _ (by omega) (fun S1 m1 f1 => N2 _ _ S1 (by omega) m1 f1 (fun S2 m2 f2 => ?_))
    have R2 : jmN S2 X i := hR.f f2 (by decide) (by decide) (by decide)
    have F2 : jaFr jgH jgG S S2 := f2.mono (by decide) (by decide)
    have e47 := m2.2.2.2.1.1
    rw [jaU_eq, e47]
    rcases hst : stk with _ | ⟨c, r⟩
    · refine ⟨fun _ => ?_, fun z => absurd (by decide) z⟩
      rw [hst] at m2
      exact hfin q1 hst S2 m2 R2 F2
    · have h43' : r.length + 1 < 45 := by
        rw [hst] at h43
        exact h43
      refine ⟨fun z => absurd z (by rw [List.length_cons, nI_z4 (by omega)]; omega), fun _ => ?_⟩
      refine sp_M_bad (by omega) R2 (fun S3 a3 f3 => ?_)
      rw [jaU_eq, a3.2]
      exact hbad (fun z => by rw [hst] at z; exact absurd z.2 (by simp)) (fun z => by omega) S3 a3 (F2.trans (f3.mono (by decide) (by decide)))
end
