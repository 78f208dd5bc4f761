section
/-! the reference: sentence -/
set_option maxHeartbeats 4000000 in
theorem sp_M_sentence {D : Nat} (hD : 8 ≤ D) {kk : Int32 → jaT → Prop} {σ : jaT} {S : jaS} {X : jtX} {nm : Nat → Nat} {n0 nK : Nat} {s : jvA} (hn2 : S.1 70 0 2 = nI X.2.1) (hl : X.2.1 ≤ 940) (hlim : X.2.2 = 200) (hX : ∀ q, X.1 q < 256) (ht : ∀ j, j < 940 → S.1 71 0 j &&& nI 255 = nI (X.1 j)) (hv : jmV S)
    (hE : jgN S nm n0 nK) (h03 : n0 ≤ 3) (hK10 : nK ≤ 10) (hs : S.1 72 0 = s)
    (h : ∀ u, jgAll X nm n0 nK = .inr u → u.1.length ≤ 39 → 1 ≤ u.1.length → ∀ R S', jgRow R u.1 → S'.1 72 0 = jvCp (jaPt s 525 (nI u.1.length)) 526 R 0 (3 * u.1.length) → S'.1 70 0 2 = nI 0 → S'.1 70 0 18 = nI 0 → jaFr [72, 74, 89] (0 :: 2 :: 3 :: 5 :: jgG) S S' → kk (nI u.2) (jaU σ 20 S'))
    (h0 : ∀ c p, jgAll X nm n0 nK = .inl (c, p) → ∀ S', jmFl S' X c p → S'.1 70 0 2 = nI 0 → jaFr jgH (0 :: 2 :: 3 :: 5 :: jgG) S S' → kk ((-1) - nI (jtAt X p)) (jaU σ 20 S')) :
    jaDe D jy_M_sentence [jaMo] (jaU σ 20 S) (jaKi kk) := by
  obtain ⟨D, rfl, hD⟩ := jaSuc hD
  apply js_M_sentence
  simp only [jaU_eq, jaU_U]
  have f0 : jaFr [] [0] S (jaUI S 70 0 0 (nI 0)) := jaFr.rfl.uf (by decide)
  refine sp_M_taken (n := X.2.1) (by omega) (by simp (disch := first | omega | decide) only [jaU_eq, jaU_U, nI_add, pk_mul, jaIx_nI, vp_inT, true_and, and_true, ↓jaO0, ↓jaO1, nI_z, nI_z2, nI_z3, nI_z4, nI_z5, nI_lt', nI_le', nI_eq', jaUI_at, jaPt_eq, jaPt_ne, jaUI_o, jaUI_2, jaUL_at, jaUL_o, jaUL_1, jaB_z, jaB_1, ↓jaB_01, Classical.not_not, and_self, true_or, or_true, nI_11, Nat.reduceEqDiff, Nat.reduceAdd, Nat.reduceMul, Nat.add_zero, Nat.zero_add, Nat.mul_zero, not_true_eq_false, not_false_eq_true, false_implies, true_implies, hn2]) (fun S1 t3 t2 t4 t5 f1 => ?_)
  simp (disch := first | omega | decide) only [jaU_eq, jaU_U, nI_add, pk_mul, jaIx_nI, vp_inT, true_and, and_true, ↓jaO0, ↓jaO1, nI_z, nI_z2, nI_z3, nI_z4, nI_z5, nI_lt', nI_le', nI_eq', jaUI_at, jaPt_eq, jaPt_ne, jaUI_o, jaUI_2, jaUL_at, jaUL_o, jaUL_1, jaB_z, jaB_1, ↓jaB_01, Classical.not_not, and_self, true_or, or_true, nI_11, Nat.reduceEqDiff, Nat.reduceAdd, Nat.reduceMul, Nat.add_zero, Nat.zero_add, Nat.mul_zero, not_true_eq_false, not_false_eq_true, false_implies, true_implies]
  have f2 : jaFr [] [18, 45, 46, 47, 48, 49] S1 (jaUI (jaUI (jaUI (jaUI (jaUI (jaUI S1 70 0 18 (nI 0)) 70 0 45 (nI 0)) 70 0 46 (nI 0)) 70 0 47 (nI 0)) 70 0 48 (nI 1)) 70 0 49 (nI 0)) := (((((jaFr.rfl.uf (by decide)).uf (by decide)).uf (by decide)).uf (by decide)).uf (by decide)).uf (by decide)
  have z18 : (jaUI (jaUI (jaUI (jaUI (jaUI (jaUI S1 70 0 18 (nI 0)) 70 0 45 (nI 0)) 70 0 46 (nI 0)) 70 0 47 (nI 0)) 70 0 48 (nI 1)) 70 0 49 (nI 0)).1 70 0 18 = nI 0 := by simp (disch := first | omega | decide) only [jaU_eq, jaU_U, nI_add, pk_mul, jaIx_nI, vp_inT, true_and, and_true, ↓jaO0, ↓jaO1, nI_z, nI_z2, nI_z3, nI_z4, nI_z5, nI_lt', nI_le', nI_eq', jaUI_at, jaPt_eq, jaPt_ne, jaUI_o, jaUI_2, jaUL_at, jaUL_o, jaUL_1, jaB_z, jaB_1, ↓jaB_01, Classical.not_not, and_self, true_or, or_true, nI_11, Nat.reduceEqDiff, Nat.reduceAdd, Nat.reduceMul, Nat.add_zero, Nat.zero_add, Nat.mul_zero, not_true_eq_false, not_false_eq_true, false_implies, true_implies]
  have M2 : jgM (jaUI (jaUI (jaUI (jaUI (jaUI (jaUI S1 70 0 18 (nI 0)) 70 0 45 (nI 0)) 70 0 46 (nI 0)) 70 0 47 (nI 0)) 70 0 48 (nI 1)) 70 0 49 (nI 0)) [] 0 [] 1 0 := by
    refine ⟨?_, fun j c hj => (by cases hj), ?_, ⟨?_, fun j c hj => (by cases hj), fun c hc => absurd hc List.not_mem_nil⟩, ?_, ?_⟩
    · simp (disch := first | omega | decide) only [jaU_eq, jaU_U, nI_add, pk_mul, jaIx_nI, vp_inT, true_and, and_true, ↓jaO0, ↓jaO1, nI_z, nI_z2, nI_z3, nI_z4, nI_z5, nI_lt', nI_le', nI_eq', jaUI_at, jaPt_eq, jaPt_ne, jaUI_o, jaUI_2, jaUL_at, jaUL_o, jaUL_1, jaB_z, jaB_1, ↓jaB_01, Classical.not_not, and_self, true_or, or_true, nI_11, Nat.reduceEqDiff, Nat.reduceAdd, Nat.reduceMul, Nat.add_zero, Nat.zero_add, Nat.mul_zero, not_true_eq_false, not_false_eq_true, false_implies, true_implies]
      rfl
    · simp (disch := first | omega | decide) only [jaU_eq, jaU_U, nI_add, pk_mul, jaIx_nI, vp_inT, true_and, and_true, ↓jaO0, ↓jaO1, nI_z, nI_z2, nI_z3, nI_z4, nI_z5, nI_lt', nI_le', nI_eq', jaUI_at, jaPt_eq, jaPt_ne, jaUI_o, jaUI_2, jaUL_at, jaUL_o, jaUL_1, jaB_z, jaB_1, ↓jaB_01, Classical.not_not, and_self, true_or, or_true, nI_11, Nat.reduceEqDiff, Nat.reduceAdd, Nat.reduceMul, Nat.add_zero, Nat.zero_add, Nat.mul_zero, not_true_eq_false, not_false_eq_true, false_implies, true_implies]
    · simp (disch := first | omega | decide) only [jaU_eq, jaU_U, nI_add, pk_mul, jaIx_nI, vp_inT, true_and, and_true, ↓jaO0, ↓jaO1, nI_z, nI_z2, nI_z3, nI_z4, nI_z5, nI_lt', nI_le', nI_eq', jaUI_at, jaPt_eq, jaPt_ne, jaUI_o, jaUI_2, jaUL_at, jaUL_o, jaUL_1, jaB_z, jaB_1, ↓jaB_01, Classical.not_not, and_self, true_or, or_true, nI_11, Nat.reduceEqDiff, Nat.reduceAdd, Nat.reduceMul, Nat.add_zero, Nat.zero_add, Nat.mul_zero, not_true_eq_false, not_false_eq_true, false_implies, true_implies]
      rfl
    · simp (disch := first | omega | decide) only [jaU_eq, jaU_U, nI_add, pk_mul, jaIx_nI, vp_inT, true_and, and_true, ↓jaO0, ↓jaO1, nI_z, nI_z2, nI_z3, nI_z4, nI_z5, nI_lt', nI_le', nI_eq', jaUI_at, jaPt_eq, jaPt_ne, jaUI_o, jaUI_2, jaUL_at, jaUL_o, jaUL_1, jaB_z, jaB_1, ↓jaB_01, Classical.not_not, and_self, true_or, or_true, nI_11, Nat.reduceEqDiff, Nat.reduceAdd, Nat.reduceMul, Nat.add_zero, Nat.zero_add, Nat.mul_zero, not_true_eq_false, not_false_eq_true, false_implies, true_implies]
    · simp (disch := first | omega | decide) only [jaU_eq, jaU_U, nI_add, pk_mul, jaIx_nI, vp_inT, true_and, and_true, ↓jaO0, ↓jaO1, nI_z, nI_z2, nI_z3, nI_z4, nI_z5, nI_lt', nI_le', nI_eq', jaUI_at, jaPt_eq, jaPt_ne, jaUI_o, jaUI_2, jaUL_at, jaUL_o, jaUL_1, jaB_z, jaB_1, ↓jaB_01, Classical.not_not, and_self, true_or, or_true, nI_11, Nat.reduceEqDiff, Nat.reduceAdd, Nat.reduceMul, Nat.add_zero, Nat.zero_add, Nat.mul_zero, not_true_eq_false, not_false_eq_true, false_implies, true_implies]
  have F2 : jaFr jgH (0 :: 2 :: 3 :: 5 :: jgG) S (jaUI (jaUI (jaUI (jaUI (jaUI (jaUI S1 70 0 18 (nI 0)) 70 0 45 (nI 0)) 70 0 46 (nI 0)) 70 0 47 (nI 0)) 70 0 48 (nI 1)) 70 0 49 (nI 0)) := (f0.mono (by decide) (by decide)).trans ((f1.mono (by decide) (by decide)).trans (f2.mono (by decide) (by decide)))
  generalize jaUI (jaUI (jaUI (jaUI (jaUI (jaUI S1 70 0 18 (nI 0)) 70 0 45 (nI 0)) 70 0 46 (nI 0)) 70 0 47 (nI 0)) 70 0 48 (nI 1)) 70 0 49 (nI 0) = S2 at *
  have T2 : jmT S2 X := ⟨fun j hj => by rw [F2.s 71 (by decide) (by decide)]; exact ht j hj, by rw [f2.f 3 (by decide)]; exact t3, by rw [f2.f 5 (by decide), t5, hlim], by omega, z18⟩
  refine sp_M_next (i := 0) (by omega) T2 hX hl (by rw [f2.f 4 (by decide), t4]; rfl) (Nat.zero_le _) (fun S3 a3 f3 => ?_)
  have F3 : jaFr jgH (0 :: 2 :: 3 :: 5 :: jgG) S S3 := F2.trans (f3.mono (by decide) (by decide))
  have V3 : jmV S3 := jmR.w hv (F3.l 79 (by decide) (by decide))
  have z2 : ∀ S', jaFr jgH jgG S3 S' → S'.1 70 0 2 = nI 0 := fun S' f => by
    rw [f.f 2 (by decide), f3.f 2 (by decide), f2.f 2 (by decide)]; exact t2
  have M3 : jgM S3 [] 0 [] 1 0 := M2.f f3 (by decide) (by decide) (by decide)
  unfold jgAll at h h0
  refine jgT_or (by omega) (by omega) (by omega) (jgOne_r 8) (jm_one (by omega) h03 hK10 (hE.f F3 (by decide) (by decide)) 8 1 rfl (by omega)) ([], 0) 0 [] S3 ⟨a3, V3⟩ M3 (Nat.zero_le _) (Nat.zero_le _) (fun c r e => by cases e) (by simp only [List.length_nil]; omega) jaFr.rfl (fun u i e1 S4 zs xs l0 b1 b2 b3 b4 b5 b6 b7 b8 b9 => ?_) (fun c p e1 S4 b1 b2 => ?_)
  · rw [jwB_i e1] at h h0
    obtain ⟨g1, g2, g3⟩ := jgOr_r (jgOne_r 8) _ _ _ _ e1 (Nat.zero_le _)
    have g3 : u.1.length + 1 + 2 * 0 ≤ 0 + 2 * u.2 := g3
    have hlu := jgLen b7
    refine jm_end (zs := zs) (xs := xs) (stk := []) (l := l0) (o := u.2) (d := 1) (by omega) b1 b3 (fun c r e => by cases e) b5 ⟨b8.1.2, b8.2⟩ b6 (by omega) ?_ (by omega) (by omega) (fun k1 _ S5 m5 r5 f5 => ?_) (fun _ r er => by cases er) (fun z _ S5 a5 f5 => ?_)
    · rw [List.length_append]
      omega
    · rw [jaIf1_t k1] at h
      rw [← b7] at m5
      have z5 := z2 S5 (b9.trans f5)
      have z185 : S5.1 70 0 18 = nI 0 := r5.1.1.2.2.2.2
      have s5 : S5.1 72 0 = s := by rw [f5.s 72 (by decide) (by decide), b9.s 72 (by decide) (by decide), F3.s 72 (by decide) (by decide)]; exact hs
      obtain ⟨m45, mr, m46, ms, m48, m49⟩ := m5
      have F5 : jaFr [72, 74, 89] (0 :: 2 :: 3 :: 5 :: jgG) S S5 := (F3.mono (by decide) (by decide)).trans ((b9.mono (by decide) (by decide)).trans (f5.mono (by decide) (by decide)))
      have hl1 : 0 < u.1.length := jgOr_n (jgOne_n 8) _ _ _ _ e1
      apply jb_M_sentence_1
      refine ⟨fun _ => ?_, fun z => absurd rfl z⟩
      simp (disch := first | omega | decide) only [jaU_eq, jaU_U, nI_add, pk_mul, jaIx_nI, vp_inT, true_and, and_true, ↓jaO0, ↓jaO1, nI_z, nI_z2, nI_z3, nI_z4, nI_z5, nI_lt', nI_le', nI_eq', jaUI_at, jaPt_eq, jaPt_ne, jaUI_o, jaUI_2, jaUL_at, jaUL_o, jaUL_1, jaB_z, jaB_1, ↓jaB_01, Classical.not_not, and_self, true_or, or_true, nI_11, Nat.reduceEqDiff, Nat.reduceAdd, Nat.reduceMul, Nat.add_zero, Nat.zero_add, Nat.mul_zero, not_true_eq_false, not_false_eq_true, false_implies, true_implies, m45]
      refine jaFor (C := fun k => ∀ S', S'.1 72 0 = jvCp (jaPt s 525 (nI u.1.length)) 526 (S5.1 74 0) 0 k → jaFr [72] [] S5 S' → jc_M_sentence_7 D kk (nI 0) (nI k) (jaU σ 20 S')) (N := 3 * u.1.length) ?_ (fun k hk ih => ?_) _ ?_ (jaFr.rfl.ui (by decide) (by decide))
      · intro S6 a6 f6
        have c45 : S6.1 70 0 45 = nI u.1.length := by rw [f6.f 45 List.not_mem_nil]; exact m45
        have c46 : S6.1 70 0 46 = nI u.2 := by rw [f6.f 46 List.not_mem_nil]; exact m46
        apply jb_M_sentence_7
        simp (disch := first | omega | decide) only [jaU_eq, jaU_U, nI_add, pk_mul, jaIx_nI, vp_inT, true_and, and_true, ↓jaO0, ↓jaO1, nI_z, nI_z2, nI_z3, nI_z4, nI_z5, nI_lt', nI_le', nI_eq', jaUI_at, jaPt_eq, jaPt_ne, jaUI_o, jaUI_2, jaUL_at, jaUL_o, jaUL_1, jaB_z, jaB_1, ↓jaB_01, Classical.not_not, and_self, true_or, or_true, nI_11, Nat.reduceEqDiff, Nat.reduceAdd, Nat.reduceMul, Nat.add_zero, Nat.zero_add, Nat.mul_zero, not_true_eq_false, not_false_eq_true, false_implies, true_implies, c45, c46]
        refine ⟨fun _ => ?_, fun q => absurd (by omega) q⟩
        exact h u rfl (by omega) hl1 (S5.1 74 0) S6 mr a6 (by rw [f6.f 2 List.not_mem_nil]; exact z5) (by rw [f6.f 18 List.not_mem_nil]; exact z185) (F5.trans (f6.mono (by decide) (by decide)))
      · intro S6 a6 f6
        have c45 : S6.1 70 0 45 = nI u.1.length := by rw [f6.f 45 List.not_mem_nil]; exact m45
        have c74 : S6.1 74 0 = S5.1 74 0 := by rw [f6.s 74 (by decide) (by decide)]
        apply jb_M_sentence_7
        simp (disch := first | omega | decide) only [jaU_eq, jaU_U, nI_add, pk_mul, jaIx_nI, vp_inT, true_and, and_true, ↓jaO0, ↓jaO1, nI_z, nI_z2, nI_z3, nI_z4, nI_z5, nI_lt', nI_le', nI_eq', jaUI_at, jaPt_eq, jaPt_ne, jaUI_o, jaUI_2, jaUL_at, jaUL_o, jaUL_1, jaB_z, jaB_1, ↓jaB_01, Classical.not_not, and_self, true_or, or_true, nI_11, Nat.reduceEqDiff, Nat.reduceAdd, Nat.reduceMul, Nat.add_zero, Nat.zero_add, Nat.mul_zero, not_true_eq_false, not_false_eq_true, false_implies, true_implies, c45, c74]
        refine ⟨fun q => absurd q (by omega), fun _ => ?_⟩
        refine ih _ ?_ (f6.ui (by decide) (by decide))
        rw [jaUI_at, a6, jvCp_s, Nat.zero_add]
      · rw [jaUI_at, s5, jvCp_0]
    · have k1 : ¬ jtK X i = 1 := fun y => z ⟨y, rfl⟩
      rw [jaIf1_f k1] at h0
      exact h0 1 i rfl S5 a5 (z2 S5 (b9.trans f5)) (F3.trans ((b9.mono (by decide) (by decide)).trans (f5.mono (by decide) (by decide))))
  · rw [jwB_l e1] at h0
    exact h0 c p rfl S4 b1 (z2 S4 b2) (F3.trans (b2.mono (by decide) (by decide)))
end
