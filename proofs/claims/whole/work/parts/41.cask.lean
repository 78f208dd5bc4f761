section
/-! the class: conflicts, rows of them -/
abbrev jcEn (k : Nat) : jaV := .inr (.inr (60, k, 0))
theorem jaOr_z {a b : Int32} : a ||| b = 0 ↔ a = 0 ∧ b = 0 := by
  rw [jaBt_z, jaBt_z, jaBt_z]
  constructor
  · intro h
    exact ⟨fun k hk x => h k hk (by rw [jaBt_or hk]; exact Or.inl x), fun k hk x => h k hk (by rw [jaBt_or hk]; exact Or.inr x)⟩
  · rintro ⟨h1, h2⟩ k hk x
    rw [jaBt_or hk] at x
    exact x.elim (h1 k hk) (h2 k hk)
theorem jaAnd_c (a b : Int32) : a &&& b = b &&& a := by
  refine jaBt_ext fun k hk => ?_
  rw [jaBt_and hk, jaBt_and hk]
  exact and_comm
theorem jaAnd_or {a b c : Int32} : a &&& (b ||| c) = 0 ↔ a &&& b = 0 ∧ a &&& c = 0 := by
  rw [← jaOr_z]
  have : a &&& (b ||| c) = (a &&& b) ||| (a &&& c) := by
    refine jaBt_ext fun k hk => ?_
    rw [jaBt_and hk, jaBt_or hk, jaBt_or hk, jaBt_and hk, jaBt_and hk]
    exact and_or_left
  rw [this]
theorem jvCf_s {s e : jvA} {i j : Nat} : jvCf s e i j ↔ jvCf s e j i := by
  unfold jvCf
  rw [jaOr_z, jaOr_z, jaAnd_or, jaAnd_or, jaAnd_c (e (9 * jvId s i + 3)), jaAnd_c (e (9 * jvId s i + 3)), jaAnd_c (e (9 * jvId s i + 2))]
  constructor
  · rintro h ⟨⟨a, b⟩, c⟩
    exact h ⟨⟨c, b⟩, a⟩
  · rintro h ⟨⟨a, b⟩, c⟩
    exact h ⟨⟨c, b⟩, a⟩
theorem sp_En_conflict {D : Nat} (hD : 1 ≤ D) {kk : Int32 → jaT → Prop} {σ : jaT} {S : jaS} {s d e : jvA} {k i j : Nat} (hR : jR S (s, d, e)) (hW : jW s d e) (hi : i < jz s 34) (hj : j < jz s 34) (h : kk (jaB (jvCf s e i j)) (jaU σ k S)) : jaDe D jy_En_conflict [jcEn k, .inl (nI i), .inl (nI j)] (jaU σ k S) (jaKi kk) := by
  obtain ⟨D, rfl, hD⟩ := jaSuc hD
  have hO := hW.O
  have hP := hW.o.pool.2
  obtain ⟨a1, a2⟩ := hW.o.id hi
  obtain ⟨b1, b2⟩ := hW.o.id hj
  have o1 : S.1 68 0 i = nI (jz s (41 + i)) := ((hR.o.2.2.1 i hi).1).trans a1
  have o2 : S.1 68 0 j = nI (jz s (41 + j)) := ((hR.o.2.2.1 j hj).1).trans b1
  obtain ⟨-, i2, i3, -, -⟩ := hR.e _ a2
  obtain ⟨-, j2, j3, -, -⟩ := hR.e _ b2
  have i2 : S.1 62 0 (jz s (41 + i)) = e (9 * jz s (41 + i) + 2) := i2
  have i3 : S.1 63 0 (jz s (41 + i)) = e (9 * jz s (41 + i) + 3) := i3
  have j2 : S.1 62 0 (jz s (41 + j)) = e (9 * jz s (41 + j) + 2) := j2
  have j3 : S.1 63 0 (jz s (41 + j)) = e (9 * jz s (41 + j) + 3) := j3
  have hc : jvCf s e i j ↔ ¬ (e (9 * jz s (41 + i) + 3) &&& (e (9 * jz s (41 + j) + 2) ||| e (9 * jz s (41 + j) + 3)) = 0 ∧ e (9 * jz s (41 + j) + 3) &&& e (9 * jz s (41 + i) + 2) = 0) := by
    unfold jvCf
    rw [jaOr_z, jaAnd_c (e (9 * jz s (41 + j) + 3))]
    exact Iff.rfl
  rw [jaB_c hc] at h
  apply js_En_conflict
  simp (disch := first | omega | decide) only [jaU_eq, jaU_U, nI_add, pk_mul, jaIx_nI, vp_inT, true_and, and_true, ↓jaO0, ↓jaO1, nI_z, nI_z2, nI_z3, nI_z4, nI_z5, nI_lt', nI_le', nI_eq', jaUI_at, jaPt_eq, jaPt_ne, jaUI_o, jaUI_2, jaUL_at, jaUL_o, jaUL_1, jaB_z, jaB_1, ↓jaB_01, Classical.not_not, and_self, true_or, or_true, nI_11, Nat.reduceEqDiff, Nat.reduceAdd, Nat.reduceMul, Nat.add_zero, Nat.zero_add, Nat.mul_zero, not_true_eq_false, not_false_eq_true, false_implies, true_implies, o1, o2, i2, i3, j2, j3]
  refine ⟨fun q => (jaBk h).1 (fun z => q z.1), fun q => ⟨fun q2 => (jaBk h).2 (fun z => z ⟨q, q2⟩), fun q2 => (jaBk h).1 (fun z => q2 z.2)⟩⟩
theorem sp_En_conflictsAhead {D : Nat} (hD : 2 ≤ D) {kk : Int32 → jaT → Prop} {σ : jaT} {S : jaS} {s d e : jvA} {k i : Nat} (hR : jR S (s, d, e)) (hW : jW s d e) (hi : i < jz s 34) (h : kk (nI (jaCnt (fun j => jvCf s e i j) i)) (jaU σ k S)) : jaDe D jy_En_conflictsAhead [jcEn k, .inl (nI i)] (jaU σ k S) (jaKi kk) := by
  obtain ⟨D, rfl, hD⟩ := jaSuc hD
  have hO := hW.O
  apply js_En_conflictsAhead
  refine jaFor (C := fun j => jc_En_conflictsAhead_1 D kk k (nI i) (nI (jaCnt (fun j => jvCf s e i j) j)) (nI j) (jaU σ k S)) (N := i) ?_ (fun j hj ih => ?_)
  · apply jb_En_conflictsAhead_1
    simp (disch := first | omega | decide) only [jaU_eq, jaU_U, nI_add, pk_mul, jaIx_nI, vp_inT, true_and, and_true, ↓jaO0, ↓jaO1, nI_z, nI_z2, nI_z3, nI_z4, nI_z5, nI_lt', nI_le', nI_eq', jaUI_at, jaPt_eq, jaPt_ne, jaUI_o, jaUI_2, jaUL_at, jaUL_o, jaUL_1, jaB_z, jaB_1, ↓jaB_01, Classical.not_not, and_self, true_or, or_true, nI_11, Nat.reduceEqDiff, Nat.reduceAdd, Nat.reduceMul, Nat.add_zero, Nat.zero_add, Nat.mul_zero, not_true_eq_false, not_false_eq_true, false_implies, true_implies]
    refine ⟨fun _ => ?_, fun q => absurd (by omega) q⟩
    exact h
  · apply jb_En_conflictsAhead_1
    simp (disch := first | omega | decide) only [jaU_eq, jaU_U, nI_add, pk_mul, jaIx_nI, vp_inT, true_and, and_true, ↓jaO0, ↓jaO1, nI_z, nI_z2, nI_z3, nI_z4, nI_z5, nI_lt', nI_le', nI_eq', jaUI_at, jaPt_eq, jaPt_ne, jaUI_o, jaUI_2, jaUL_at, jaUL_o, jaUL_1, jaB_z, jaB_1, ↓jaB_01, Classical.not_not, and_self, true_or, or_true, nI_11, Nat.reduceEqDiff, Nat.reduceAdd, Nat.reduceMul, Nat.add_zero, Nat.zero_add, Nat.mul_zero, not_true_eq_false, not_false_eq_true, false_implies, true_implies]
    refine ⟨fun q => absurd q (by omega), fun _ => ?_⟩
    refine sp_En_conflict (by omega) hR hW (show j < jz s 34 by omega) hi ?_
    simp (disch := first | omega | decide) only [jaU_eq, jaU_U, nI_add, pk_mul, jaIx_nI, vp_inT, true_and, and_true, ↓jaO0, ↓jaO1, nI_z, nI_z2, nI_z3, nI_z4, nI_z5, nI_lt', nI_le', nI_eq', jaUI_at, jaPt_eq, jaPt_ne, jaUI_o, jaUI_2, jaUL_at, jaUL_o, jaUL_1, jaB_z, jaB_1, ↓jaB_01, Classical.not_not, and_self, true_or, or_true, nI_11, Nat.reduceEqDiff, Nat.reduceAdd, Nat.reduceMul, Nat.add_zero, Nat.zero_add, Nat.mul_zero, not_true_eq_false, not_false_eq_true, false_implies, true_implies]
    refine ⟨fun q => ?_, fun q => ?_⟩
    · rw [jaCnt_f (fun z => q (jvCf_s.mp z))] at ih
      exact ih
    · rw [jaCnt_t (jvCf_s.mp q)] at ih
      exact ih
theorem sp_St_countAwaited {D : Nat} (hD : 2 ≤ D) {kk : Int32 → jaT → Prop} {σ : jaT} {S : jaS} {s d e : jvA} {k c i : Nat} (hR : jR S (s, d, e)) (hW : jW s d e) (hc : c < jz s 2) (hi : i < jz s 34) (h : kk (jaIf1 (s (175 + 40 * c + i) = 0) (nI (jvAh s e c i i)) (nI 0)) (jaU σ k S)) : jaDe D jy_St_countAwaited [jcSt k, .inl (nI c), .inl (nI i)] (jaU σ k S) (jaKi kk) := by
  obtain ⟨D, rfl, hD⟩ := jaSuc hD
  have hc3 : c < 3 := by have := hW.w.2.2.1.2.2; omega
  have hO := hW.O
  have hv : S.1 52 c i = s (175 + 40 * c + i) := ((hR.c c hc).2 i hi).1
  apply js_St_countAwaited
  simp (disch := first | omega | decide) only [jaU_eq, jaU_U, nI_add, pk_mul, jaIx_nI, vp_inT, true_and, and_true, ↓jaO0, ↓jaO1, nI_z, nI_z2, nI_z3, nI_z4, nI_z5, nI_lt', nI_le', nI_eq', jaUI_at, jaPt_eq, jaPt_ne, jaUI_o, jaUI_2, jaUL_at, jaUL_o, jaUL_1, jaB_z, jaB_1, ↓jaB_01, Classical.not_not, and_self, true_or, or_true, nI_11, Nat.reduceEqDiff, Nat.reduceAdd, Nat.reduceMul, Nat.add_zero, Nat.zero_add, Nat.mul_zero, not_true_eq_false, not_false_eq_true, false_implies, true_implies, hv]
  refine ⟨fun q => ?_, fun q => ?_⟩
  · rw [jaIf1_t q] at h
    refine jaFor (C := fun j => jc_St_countAwaited_2 D kk k (nI c) (nI i) (nI (jvAh s e c i j)) (nI j) (jaU σ k S)) (N := i) ?_ (fun j hj ih => ?_)
    · apply jb_St_countAwaited_2
      simp (disch := first | omega | decide) only [jaU_eq, jaU_U, nI_add, pk_mul, jaIx_nI, vp_inT, true_and, and_true, ↓jaO0, ↓jaO1, nI_z, nI_z2, nI_z3, nI_z4, nI_z5, nI_lt', nI_le', nI_eq', jaUI_at, jaPt_eq, jaPt_ne, jaUI_o, jaUI_2, jaUL_at, jaUL_o, jaUL_1, jaB_z, jaB_1, ↓jaB_01, Classical.not_not, and_self, true_or, or_true, nI_11, Nat.reduceEqDiff, Nat.reduceAdd, Nat.reduceMul, Nat.add_zero, Nat.zero_add, Nat.mul_zero, not_true_eq_false, not_false_eq_true, false_implies, true_implies]
      refine ⟨fun _ => ?_, fun q => absurd (by omega) q⟩
      exact h
    · apply jb_St_countAwaited_2
      simp (disch := first | omega | decide) only [jaU_eq, jaU_U, nI_add, pk_mul, jaIx_nI, vp_inT, true_and, and_true, ↓jaO0, ↓jaO1, nI_z, nI_z2, nI_z3, nI_z4, nI_z5, nI_lt', nI_le', nI_eq', jaUI_at, jaPt_eq, jaPt_ne, jaUI_o, jaUI_2, jaUL_at, jaUL_o, jaUL_1, jaB_z, jaB_1, ↓jaB_01, Classical.not_not, and_self, true_or, or_true, nI_11, Nat.reduceEqDiff, Nat.reduceAdd, Nat.reduceMul, Nat.add_zero, Nat.zero_add, Nat.mul_zero, not_true_eq_false, not_false_eq_true, false_implies, true_implies]
      refine ⟨fun q => absurd q (by omega), fun _ => ?_⟩
      refine sp_Cp_isExecuted (by omega) hR hW.c hc hc3 (show j < jz s 34 by omega) (by omega) ?_
      simp (disch := first | omega | decide) only [jaU_eq, jaU_U, nI_add, pk_mul, jaIx_nI, vp_inT, true_and, and_true, ↓jaO0, ↓jaO1, nI_z, nI_z2, nI_z3, nI_z4, nI_z5, nI_lt', nI_le', nI_eq', jaUI_at, jaPt_eq, jaPt_ne, jaUI_o, jaUI_2, jaUL_at, jaUL_o, jaUL_1, jaB_z, jaB_1, ↓jaB_01, Classical.not_not, and_self, true_or, or_true, nI_11, Nat.reduceEqDiff, Nat.reduceAdd, Nat.reduceMul, Nat.add_zero, Nat.zero_add, Nat.mul_zero, not_true_eq_false, not_false_eq_true, false_implies, true_implies]
      refine ⟨fun q2 => ?_, fun q2 => ?_⟩
      · rw [jvAh, jaCnt_f (fun z => z.1 q2)] at ih
        exact ih
      · refine sp_En_conflict (by omega) hR hW (show j < jz s 34 by omega) hi ?_
        simp (disch := first | omega | decide) only [jaU_eq, jaU_U, nI_add, pk_mul, jaIx_nI, vp_inT, true_and, and_true, ↓jaO0, ↓jaO1, nI_z, nI_z2, nI_z3, nI_z4, nI_z5, nI_lt', nI_le', nI_eq', jaUI_at, jaPt_eq, jaPt_ne, jaUI_o, jaUI_2, jaUL_at, jaUL_o, jaUL_1, jaB_z, jaB_1, ↓jaB_01, Classical.not_not, and_self, true_or, or_true, nI_11, Nat.reduceEqDiff, Nat.reduceAdd, Nat.reduceMul, Nat.add_zero, Nat.zero_add, Nat.mul_zero, not_true_eq_false, not_false_eq_true, false_implies, true_implies]
        refine ⟨fun q3 => ?_, fun q3 => ?_⟩
        · rw [jvAh, jaCnt_f (fun z => q3 (jvCf_s.mp z.2))] at ih
          exact ih
        · rw [jvAh, jaCnt_t ⟨q2, jvCf_s.mp q3⟩] at ih
          exact ih
  · rw [jaIf1_f q] at h
    exact h
set_option maxHeartbeats 1000000 in
theorem sp_En_longestRow {D : Nat} (hD : 2 ≤ D) {kk : Int32 → jaT → Prop} {σ : jaT} {S : jaS} {s d e w : Nat → Nat} : True := trivial
set_option maxHeartbeats 1000000 in
theorem sp_En_longestRow' {D : Nat} (hD : 2 ≤ D) {kk : Int32 → jaT → Prop} {σ : jaT} {S : jaS} {s d e : jvA} {w : Nat → Nat} {k W : Nat} (hR : jR S (s, d, e)) (hW : jW s d e) (hWb : W ≤ 10) (hw : ∀ i, i < jz s 34 → w i + 1 = jaIf1 (jvWd s e i) W 1) (hw9 : ∀ i, w i ≤ 9)
    (h : ∀ S', jcF [69] S S' → kk (nI (jvLa (jvCf s e) w (jz s 34)).2) (jaU σ k S')) : jaDe D jy_En_longestRow [jcEn k, .inl (nI W)] (jaU σ k S) (jaKi kk) := by
  obtain ⟨D, rfl, hD⟩ := jaSuc hD
  have hO := hW.o.ord
  have hP := hW.o.pool.2
  have o60 : S.1 60 0 1 = nI (jz s 34) := hR.o.2.1.trans hO.1
  apply js_En_longestRow
  refine jaFor (C := fun i => ∀ S' u4 u5, (∀ q, q < i → S'.1 69 0 q = nI ((jvLa (jvCf s e) w i).1 q)) → jcF [69] S S' → jc_En_longestRow_1 D kk k (nI W) (nI (jvLa (jvCf s e) w i).2) (nI i) u4 u5 (jaU σ k S')) (N := jz s 34) ?_ (fun i hi ih => ?_) S _ _ (fun q hq => absurd hq (by omega)) jcF.rfl
  · intro S' u4 u5 a f
    have o60' : S'.1 60 0 1 = nI (jz s 34) := by rw [f.s 60 (by decide)]; exact o60
    apply jb_En_longestRow_1
    simp (disch := first | omega | decide) only [jaU_eq, jaU_U, nI_add, pk_mul, jaIx_nI, vp_inT, true_and, and_true, ↓jaO0, ↓jaO1, nI_z, nI_z2, nI_z3, nI_z4, nI_z5, nI_lt', nI_le', nI_eq', jaUI_at, jaPt_eq, jaPt_ne, jaUI_o, jaUI_2, jaUL_at, jaUL_o, jaUL_1, jaB_z, jaB_1, ↓jaB_01, Classical.not_not, and_self, true_or, or_true, nI_11, Nat.reduceEqDiff, Nat.reduceAdd, Nat.reduceMul, Nat.add_zero, Nat.zero_add, Nat.mul_zero, not_true_eq_false, not_false_eq_true, false_implies, true_implies, o60']
    refine ⟨fun _ => ?_, fun q => absurd (by omega) q⟩
    exact h S' f
  · intro S' u4 u5 a f
    have hR' : jR S' (s, d, e) := jR_S (fun o a b c => f.s o (by simp [c])) hR
    have o60' : S'.1 60 0 1 = nI (jz s 34) := by rw [f.s 60 (by decide)]; exact o60
    have hle := jvLa_le (C := jvCf s e) hw9 i
    have hst : jvLa (jvCf s e) w (i + 1) = (fun q => if q = i then jvMx (jvCf s e) (jvLa (jvCf s e) w i).1 i i + 1 + w i else (jvLa (jvCf s e) w i).1 q, max (jvLa (jvCf s e) w i).2 (jvMx (jvCf s e) (jvLa (jvCf s e) w i).1 i i + 1 + w i)) := rfl
    rw [hst] at ih
    generalize jvLa (jvCf s e) w i = y at *
    obtain ⟨L, M⟩ := y
    simp only [] at a hle ih
    obtain ⟨a1, a2⟩ := hW.o.id hi
    have o1 : S'.1 68 0 i = nI (jz s (41 + i)) := ((hR'.o.2.2.1 i hi).1).trans a1
    have i4 : S'.1 64 0 (jz s (41 + i)) = e (9 * jz s (41 + i) + 4) := (hR'.e _ a2).2.2.2.1
    have hwd := (hW.e _ a2).2.2.2.2
    have hwi := hw i hi
    unfold jvWd at hwi
    have hII : jvId s i = jz s (41 + i) := rfl
    rw [hII] at hwi
    have step : ∀ v, v = jvMx (jvCf s e) L i i + 1 + w i → ∀ u4 u5, jc_En_longestRow_1 D kk k (nI W) (nI (max M v)) (nI (i + 1)) u4 u5 (jaU σ k (jaUI S' 69 0 i (nI v))) := by
      intro v hv u4 u5
      rw [← hv] at ih
      refine ih _ u4 u5 (fun q hq => ?_) (f.ui (by decide))
      simp (disch := first | omega | decide) only [jaU_eq, jaU_U, nI_add, pk_mul, jaIx_nI, vp_inT, true_and, and_true, ↓jaO0, ↓jaO1, nI_z, nI_z2, nI_z3, nI_z4, nI_z5, nI_lt', nI_le', nI_eq', jaUI_at, jaPt_eq, jaPt_ne, jaUI_o, jaUI_2, jaUL_at, jaUL_o, jaUL_1, jaB_z, jaB_1, ↓jaB_01, Classical.not_not, and_self, true_or, or_true, nI_11, Nat.reduceEqDiff, Nat.reduceAdd, Nat.reduceMul, Nat.add_zero, Nat.zero_add, Nat.mul_zero, not_true_eq_false, not_false_eq_true, false_implies, true_implies]
      by_cases e1 : q = i
      · rw [e1, jaPt_eq, if_pos rfl]
      · rw [jaPt_ne e1, if_neg e1]
        exact a q (by omega)
    apply jb_En_longestRow_1
    simp (disch := first | omega | decide) only [jaU_eq, jaU_U, nI_add, pk_mul, jaIx_nI, vp_inT, true_and, and_true, ↓jaO0, ↓jaO1, nI_z, nI_z2, nI_z3, nI_z4, nI_z5, nI_lt', nI_le', nI_eq', jaUI_at, jaPt_eq, jaPt_ne, jaUI_o, jaUI_2, jaUL_at, jaUL_o, jaUL_1, jaB_z, jaB_1, ↓jaB_01, Classical.not_not, and_self, true_or, or_true, nI_11, Nat.reduceEqDiff, Nat.reduceAdd, Nat.reduceMul, Nat.add_zero, Nat.zero_add, Nat.mul_zero, not_true_eq_false, not_false_eq_true, false_implies, true_implies, o60']
    refine ⟨fun q => absurd q (by omega), fun _ => ?_⟩
    refine jaFor (C := fun j => jc_En_longestRow_2 D kk k (nI W) (nI M) (nI i) (nI (jvMx (jvCf s e) L i j)) (nI j) (jaU σ k S')) (N := i) ?_ (fun j hj ih2 => ?_)
    · have hm := jvMx_le (C := jvCf s e) (i := i) hle.1 i
      have hb1 := hw9 i
      generalize jvMx (jvCf s e) L i i = m at *
      apply jb_En_longestRow_2
      simp (disch := first | omega | decide) only [jaU_eq, jaU_U, nI_add, pk_mul, jaIx_nI, vp_inT, true_and, and_true, ↓jaO0, ↓jaO1, nI_z, nI_z2, nI_z3, nI_z4, nI_z5, nI_lt', nI_le', nI_eq', jaUI_at, jaPt_eq, jaPt_ne, jaUI_o, jaUI_2, jaUL_at, jaUL_o, jaUL_1, jaB_z, jaB_1, ↓jaB_01, Classical.not_not, and_self, true_or, or_true, nI_11, Nat.reduceEqDiff, Nat.reduceAdd, Nat.reduceMul, Nat.add_zero, Nat.zero_add, Nat.mul_zero, not_true_eq_false, not_false_eq_true, false_implies, true_implies, o1, i4]
      refine ⟨fun _ => ?_, fun q => absurd (by omega) q⟩
      refine ⟨fun q => ?_, fun q => ?_⟩
      · rw [jaIf1_f (fun z => by rw [z] at q; exact absurd q (by decide))] at hwi
        refine sp_JM_max (by omega) (by omega) (by omega) ?_
        exact step _ (by omega) _ _
      · rw [jaIf1_t (hwd.resolve_left (fun z => q (by rw [z]; decide)))] at hwi
        refine sp_JM_max (by omega) (by omega) (by omega) ?_
        exact step _ (by omega) _ _
    · have hm := jvMx_le (C := jvCf s e) (i := i) hle.1 j
      have hst2 : jvMx (jvCf s e) L i (j + 1) = jaIf1 (jvCf s e i j) (max (jvMx (jvCf s e) L i j) (L j)) (jvMx (jvCf s e) L i j) := rfl
      rw [hst2] at ih2
      generalize jvMx (jvCf s e) L i j = m at *
      have hLj := hle.1 j
      have haj := a j hj
      apply jb_En_longestRow_2
      simp (disch := first | omega | decide) only [jaU_eq, jaU_U, nI_add, pk_mul, jaIx_nI, vp_inT, true_and, and_true, ↓jaO0, ↓jaO1, nI_z, nI_z2, nI_z3, nI_z4, nI_z5, nI_lt', nI_le', nI_eq', jaUI_at, jaPt_eq, jaPt_ne, jaUI_o, jaUI_2, jaUL_at, jaUL_o, jaUL_1, jaB_z, jaB_1, ↓jaB_01, Classical.not_not, and_self, true_or, or_true, nI_11, Nat.reduceEqDiff, Nat.reduceAdd, Nat.reduceMul, Nat.add_zero, Nat.zero_add, Nat.mul_zero, not_true_eq_false, not_false_eq_true, false_implies, true_implies, haj]
      refine ⟨fun q => absurd q (by omega), fun _ => ?_⟩
      refine ⟨fun q => ?_, fun q => ?_⟩
      · have e1 : jaIf1 (jvCf s e i j) (max m (L j)) m = m := by
          unfold jaIf1
          split <;> omega
        rw [e1] at ih2
        exact ih2
      · refine sp_En_conflict (by omega) hR' hW (show j < jz s 34 by omega) hi ?_
        simp (disch := first | omega | decide) only [jaU_eq, jaU_U, nI_add, pk_mul, jaIx_nI, vp_inT, true_and, and_true, ↓jaO0, ↓jaO1, nI_z, nI_z2, nI_z3, nI_z4, nI_z5, nI_lt', nI_le', nI_eq', jaUI_at, jaPt_eq, jaPt_ne, jaUI_o, jaUI_2, jaUL_at, jaUL_o, jaUL_1, jaB_z, jaB_1, ↓jaB_01, Classical.not_not, and_self, true_or, or_true, nI_11, Nat.reduceEqDiff, Nat.reduceAdd, Nat.reduceMul, Nat.add_zero, Nat.zero_add, Nat.mul_zero, not_true_eq_false, not_false_eq_true, false_implies, true_implies, haj]
        refine ⟨fun q2 => ?_, fun q2 => ?_⟩
        · rw [jaIf1_f (fun z => q2 (jvCf_s.mp z))] at ih2
          exact ih2
        · rw [jaIf1_t (jvCf_s.mp q2), Nat.max_eq_right (by omega)] at ih2
          exact ih2
/-! the class: alike, all over -/
theorem sp_St_isAllExecuted {D : Nat} (hD : 3 ≤ D) {kk : Int32 → jaT → Prop} {σ : jaT} {S : jaS} {s d e : jvA} {k : Nat} (hR : jR S (s, d, e)) (hW : jW s d e) (h : kk (jaB (∀ c, c < jz s 2 → jvAo s c (jz s 34))) (jaU σ k S)) : jaDe D jy_St_isAllExecuted [jcSt k] (jaU σ k S) (jaKi kk) := by
  obtain ⟨D, rfl, hD⟩ := jaSuc hD
  obtain ⟨hC, hC1, hC3⟩ := hW.w.2.2.1
  have hO := hW.o.ord
  have w30 : S.1 30 0 2 = nI (jz s 2) := hR.w.1.2.2.1.trans hC
  have o60 : S.1 60 0 1 = nI (jz s 34) := hR.o.2.1.trans hO.1
  apply js_St_isAllExecuted
  refine jaFor (C := fun c => (∀ c', c' < c → jvAo s c' (jz s 34)) → jc_St_isAllExecuted_1 D kk k (nI c) (jaU σ k S)) (N := jz s 2) ?_ (fun c hc ih => ?_) (fun c' hc' => absurd hc' (by omega))
  · intro ha
    apply jb_St_isAllExecuted_1
    simp (disch := first | omega | decide) only [jaU_eq, jaU_U, nI_add, pk_mul, jaIx_nI, vp_inT, true_and, and_true, ↓jaO0, ↓jaO1, nI_z, nI_z2, nI_z3, nI_z4, nI_z5, nI_lt', nI_le', nI_eq', jaUI_at, jaPt_eq, jaPt_ne, jaUI_o, jaUI_2, jaUL_at, jaUL_o, jaUL_1, jaB_z, jaB_1, ↓jaB_01, Classical.not_not, and_self, true_or, or_true, nI_11, Nat.reduceEqDiff, Nat.reduceAdd, Nat.reduceMul, Nat.add_zero, Nat.zero_add, Nat.mul_zero, not_true_eq_false, not_false_eq_true, false_implies, true_implies, w30]
    refine ⟨fun _ => ?_, fun q => absurd (by omega) q⟩
    rw [jaB_t ha] at h
    exact h
  · intro ha
    apply jb_St_isAllExecuted_1
    simp (disch := first | omega | decide) only [jaU_eq, jaU_U, nI_add, pk_mul, jaIx_nI, vp_inT, true_and, and_true, ↓jaO0, ↓jaO1, nI_z, nI_z2, nI_z3, nI_z4, nI_z5, nI_lt', nI_le', nI_eq', jaUI_at, jaPt_eq, jaPt_ne, jaUI_o, jaUI_2, jaUL_at, jaUL_o, jaUL_1, jaB_z, jaB_1, ↓jaB_01, Classical.not_not, and_self, true_or, or_true, nI_11, Nat.reduceEqDiff, Nat.reduceAdd, Nat.reduceMul, Nat.add_zero, Nat.zero_add, Nat.mul_zero, not_true_eq_false, not_false_eq_true, false_implies, true_implies, w30, o60]
    refine ⟨fun q => absurd q (by omega), fun _ => ?_⟩
    refine sp_Cp_isExecutedAhead (by omega) hR hW.c hc (by omega) (Nat.le_refl _) hO.2 ?_
    simp (disch := first | omega | decide) only [jaU_eq, jaU_U, nI_add, pk_mul, jaIx_nI, vp_inT, true_and, and_true, ↓jaO0, ↓jaO1, nI_z, nI_z2, nI_z3, nI_z4, nI_z5, nI_lt', nI_le', nI_eq', jaUI_at, jaPt_eq, jaPt_ne, jaUI_o, jaUI_2, jaUL_at, jaUL_o, jaUL_1, jaB_z, jaB_1, ↓jaB_01, Classical.not_not, and_self, true_or, or_true, nI_11, Nat.reduceEqDiff, Nat.reduceAdd, Nat.reduceMul, Nat.add_zero, Nat.zero_add, Nat.mul_zero, not_true_eq_false, not_false_eq_true, false_implies, true_implies]
    refine ⟨fun q => ih (fun c' hc' => if e1 : c' = c then (by rw [e1]; exact q) else ha c' (by omega)), fun q => ?_⟩
    rw [jaB_f (fun z => q (z c hc))] at h
    exact h
theorem sp_St_isOver {D : Nat} (hD : 4 ≤ D) {kk : Int32 → jaT → Prop} {σ : jaT} {S : jaS} {s d e : jvA} {k : Nat} (hR : jR S (s, d, e)) (hW : jW s d e) (h : kk (jaB (jvAll s)) (jaU σ k S)) : jaDe D jy_St_isOver [jcSt k] (jaU σ k S) (jaKi kk) := by
  obtain ⟨D, rfl, hD⟩ := jaSuc hD
  have hO := hW.o.ord
  have hP := hW.o.pool
  have h5 := hW.o.2.2.2.2.1
  have o60 : S.1 60 0 1 = nI (jz s 34) := hR.o.2.1.trans hO.1
  have o61 : S.1 60 0 0 = nI (jz s 33) := hR.o.1.trans hP.1
  apply js_St_isOver
  simp (disch := first | omega | decide) only [jaU_eq, jaU_U, nI_add, pk_mul, jaIx_nI, vp_inT, true_and, and_true, ↓jaO0, ↓jaO1, nI_z, nI_z2, nI_z3, nI_z4, nI_z5, nI_lt', nI_le', nI_eq', jaUI_at, jaPt_eq, jaPt_ne, jaUI_o, jaUI_2, jaUL_at, jaUL_o, jaUL_1, jaB_z, jaB_1, ↓jaB_01, Classical.not_not, and_self, true_or, or_true, nI_11, Nat.reduceEqDiff, Nat.reduceAdd, Nat.reduceMul, Nat.add_zero, Nat.zero_add, Nat.mul_zero, not_true_eq_false, not_false_eq_true, false_implies, true_implies, o60, o61]
  refine ⟨fun q => (jaBk h).2 (fun z => by have := z.1; omega), fun q => ?_⟩
  refine sp_St_isAllExecuted (by omega) hR hW ?_
  simp (disch := first | omega | decide) only [jaU_eq, jaU_U, nI_add, pk_mul, jaIx_nI, vp_inT, true_and, and_true, ↓jaO0, ↓jaO1, nI_z, nI_z2, nI_z3, nI_z4, nI_z5, nI_lt', nI_le', nI_eq', jaUI_at, jaPt_eq, jaPt_ne, jaUI_o, jaUI_2, jaUL_at, jaUL_o, jaUL_1, jaB_z, jaB_1, ↓jaB_01, Classical.not_not, and_self, true_or, or_true, nI_11, Nat.reduceEqDiff, Nat.reduceAdd, Nat.reduceMul, Nat.add_zero, Nat.zero_add, Nat.mul_zero, not_true_eq_false, not_false_eq_true, false_implies, true_implies]
  exact ⟨fun q2 => (jaBk h).2 (fun z => q2 z.2), fun q2 => (jaBk h).1 ⟨by omega, q2⟩⟩
theorem sp_St_isSame {D : Nat} (hD : 4 ≤ D) {kk : Int32 → jaT → Prop} {σ : jaT} {S : jaS} {s d e : jvA} {k : Nat} (hR : jR S (s, d, e)) (hW : jW s d e) (h : kk (jaB (jvSame s)) (jaU σ k S)) : jaDe D jy_St_isSame [jcSt k] (jaU σ k S) (jaKi kk) := by
  obtain ⟨D, rfl, hD⟩ := jaSuc hD
  obtain ⟨hC, hC1, hC3⟩ := hW.w.2.2.1
  obtain ⟨hK, hK'⟩ := hW.w.2.1
  have w30 : S.1 30 0 2 = nI (jz s 2) := hR.w.1.2.2.1.trans hC
  have w1 : S.1 30 0 1 = nI (jz s 1) := hR.w.1.2.1.trans hK
  have hv : ∀ c, c < jz s 2 → ∀ q, q < jz s 1 → S.1 51 c q = s (145 + 10 * c + q) := fun c hc => (hR.c c hc).1
  apply js_St_isSame
  refine sp_St_isAllExecuted (by omega) hR hW ?_
  simp (disch := first | omega | decide) only [jaU_eq, jaU_U, nI_add, pk_mul, jaIx_nI, vp_inT, true_and, and_true, ↓jaO0, ↓jaO1, nI_z, nI_z2, nI_z3, nI_z4, nI_z5, nI_lt', nI_le', nI_eq', jaUI_at, jaPt_eq, jaPt_ne, jaUI_o, jaUI_2, jaUL_at, jaUL_o, jaUL_1, jaB_z, jaB_1, ↓jaB_01, Classical.not_not, and_self, true_or, or_true, nI_11, Nat.reduceEqDiff, Nat.reduceAdd, Nat.reduceMul, Nat.add_zero, Nat.zero_add, Nat.mul_zero, not_true_eq_false, not_false_eq_true, false_implies, true_implies]
  refine ⟨fun qa => ?_, fun qa => (jaBk h).2 (fun z => qa (fun c hc => (z c hc).1))⟩
  refine jaForA (C := fun c => (∀ c', c' < c → ∀ q, q < jz s 1 → s (145 + 10 * c' + q) = s (145 + q)) → ∀ u, jc_St_isSame_2 D kk k (nI c) u (jaU σ k S)) (a := 1) (N := jz s 2) hC1 ?_ (fun c hc1 hc ih => ?_) (fun c' hc' q hq => by rw [show c' = 0 by omega]) _
  · intro ha u
    apply jb_St_isSame_2
    simp (disch := first | omega | decide) only [jaU_eq, jaU_U, nI_add, pk_mul, jaIx_nI, vp_inT, true_and, and_true, ↓jaO0, ↓jaO1, nI_z, nI_z2, nI_z3, nI_z4, nI_z5, nI_lt', nI_le', nI_eq', jaUI_at, jaPt_eq, jaPt_ne, jaUI_o, jaUI_2, jaUL_at, jaUL_o, jaUL_1, jaB_z, jaB_1, ↓jaB_01, Classical.not_not, and_self, true_or, or_true, nI_11, Nat.reduceEqDiff, Nat.reduceAdd, Nat.reduceMul, Nat.add_zero, Nat.zero_add, Nat.mul_zero, not_true_eq_false, not_false_eq_true, false_implies, true_implies, w30]
    refine ⟨fun _ => ?_, fun q => absurd (by omega) q⟩
    exact (jaBk h).1 (fun c hc => ⟨qa c hc, ha c hc⟩)
  · intro ha u
    apply jb_St_isSame_2
    simp (disch := first | omega | decide) only [jaU_eq, jaU_U, nI_add, pk_mul, jaIx_nI, vp_inT, true_and, and_true, ↓jaO0, ↓jaO1, nI_z, nI_z2, nI_z3, nI_z4, nI_z5, nI_lt', nI_le', nI_eq', jaUI_at, jaPt_eq, jaPt_ne, jaUI_o, jaUI_2, jaUL_at, jaUL_o, jaUL_1, jaB_z, jaB_1, ↓jaB_01, Classical.not_not, and_self, true_or, or_true, nI_11, Nat.reduceEqDiff, Nat.reduceAdd, Nat.reduceMul, Nat.add_zero, Nat.zero_add, Nat.mul_zero, not_true_eq_false, not_false_eq_true, false_implies, true_implies, w30]
    refine ⟨fun q => absurd q (by omega), fun _ => ?_⟩
    refine jaFor (C := fun q => (∀ q', q' < q → s (145 + 10 * c + q') = s (145 + q')) → jc_St_isSame_3 D kk k (nI c) (nI q) (jaU σ k S)) (N := jz s 1) ?_ (fun q hq ih3 => ?_) (fun q' hq' => absurd hq' (by omega))
    · intro hb
      apply jb_St_isSame_3
      simp (disch := first | omega | decide) only [jaU_eq, jaU_U, nI_add, pk_mul, jaIx_nI, vp_inT, true_and, and_true, ↓jaO0, ↓jaO1, nI_z, nI_z2, nI_z3, nI_z4, nI_z5, nI_lt', nI_le', nI_eq', jaUI_at, jaPt_eq, jaPt_ne, jaUI_o, jaUI_2, jaUL_at, jaUL_o, jaUL_1, jaB_z, jaB_1, ↓jaB_01, Classical.not_not, and_self, true_or, or_true, nI_11, Nat.reduceEqDiff, Nat.reduceAdd, Nat.reduceMul, Nat.add_zero, Nat.zero_add, Nat.mul_zero, not_true_eq_false, not_false_eq_true, false_implies, true_implies, w1]
      refine ⟨fun _ => ?_, fun q => absurd (by omega) q⟩
      exact ih (fun c' hc' => if e1 : c' = c then (by rw [e1]; exact hb) else ha c' (by omega)) _
    · intro hb
      have v1 := hv c hc q hq
      have v0 := hv 0 (by omega) q hq
      simp only [Nat.mul_zero, Nat.add_zero] at v0
      apply jb_St_isSame_3
      simp (disch := first | omega | decide) only [jaU_eq, jaU_U, nI_add, pk_mul, jaIx_nI, vp_inT, true_and, and_true, ↓jaO0, ↓jaO1, nI_z, nI_z2, nI_z3, nI_z4, nI_z5, nI_lt', nI_le', nI_eq', jaUI_at, jaPt_eq, jaPt_ne, jaUI_o, jaUI_2, jaUL_at, jaUL_o, jaUL_1, jaB_z, jaB_1, ↓jaB_01, Classical.not_not, and_self, true_or, or_true, nI_11, Nat.reduceEqDiff, Nat.reduceAdd, Nat.reduceMul, Nat.add_zero, Nat.zero_add, Nat.mul_zero, not_true_eq_false, not_false_eq_true, false_implies, true_implies, w1, v1, v0]
      refine ⟨fun q => absurd q (by omega), fun _ => ?_⟩
      exact ⟨fun q2 => ih3 (fun q' hq' => if e1 : q' = q then (by rw [e1]; exact q2) else hb q' (by omega)), fun q2 => (jaBk h).2 (fun z => q2 ((z c hc).2 q hq))⟩
/-! the first that are so -/
noncomputable def jvNt (p : Nat → Prop) (t : Int32) : Nat → Nat → Nat → Option Nat
  | 0, _, _ => none
  | m + 1, j, n => jaIf1 (p j) (jaIf1 (nI n = t) (some j) (jvNt p t m (j + 1) (n + 1))) (jvNt p t m (j + 1) n)
theorem jvNt_c {p q : Nat → Prop} {t : Int32} : ∀ m j n, (∀ i, j ≤ i → i < j + m → (p i ↔ q i)) → jvNt p t m j n = jvNt q t m j n
  | 0, _, _, _ => rfl
  | m + 1, j, n, h => by
    rw [jvNt, jvNt, jvNt_c m (j + 1) (n + 1) (fun i h1 h2 => h i (by omega) (by omega)), jvNt_c m (j + 1) n (fun i h1 h2 => h i (by omega) (by omega)), propext (h j (Nat.le_refl _) (by omega))]
theorem jvNt_lt {p : Nat → Prop} {t : Int32} {r : Nat} : ∀ m j n, jvNt p t m j n = some r → j ≤ r ∧ r < j + m ∧ p r
  | 0, _, _, h => by cases h
  | m + 1, j, n, h => by
    rw [jvNt] at h
    by_cases q : p j
    · rw [jaIf1_t q] at h
      by_cases q2 : nI n = t
      · rw [jaIf1_t q2] at h
        cases h
        exact ⟨Nat.le_refl _, by omega, q⟩
      · rw [jaIf1_f q2] at h
        have := jvNt_lt m (j + 1) (n + 1) h
        exact ⟨by omega, by omega, this.2.2⟩
    · rw [jaIf1_f q] at h
      have := jvNt_lt m (j + 1) n h
      exact ⟨by omega, by omega, this.2.2⟩
noncomputable def jvOp (o : Option Nat) (f : Nat → Int32) : Int32 := match o with
  | some r => f r
  | none => -1
/-- who asks for a key -/
def jvAk (s e : jvA) (c q j : Nat) : Prop := ¬ jvOv s c j ∧ (jaBt (e (9 * jvId s j + 3)) q ∨ jaBt (e (9 * jvId s j + 2)) q)
theorem jaBt_v {x : Int32} {q : Nat} (hq : q < 32) : (x.toUInt32 >>> ((nI q).toUInt32 &&& Int32.toUInt32 31)).toInt32 &&& nI 1 = nI (jaBn (jaBt x q)) := by
  by_cases h : jaBt x q
  · rw [jaBn_t h]
    have := jaBt_u (x := x) hq
    rw [this]
    exact h
  · rw [jaBn_f h]
    refine b_ext fun i hi => ?_
    rw [b_and, b_one i hi, nI_0, b_0]
    by_cases e : i = 0
    · rw [e, b_ushr q hq x, Nat.add_zero]
      rw [jaBt_bt hq] at h
      cases hb : bt x q
      · rfl
      · exact absurd hb h
    · simp [e]
set_option maxHeartbeats 1000000 in
theorem sp_St_whoAsks {D : Nat} (hD : 2 ≤ D) {kk : Int32 → jaT → Prop} {σ : jaT} {S : jaS} {s d e : jvA} {k c q : Nat} {t : Int32} (hR : jR S (s, d, e)) (hW : jW s d e) (hc : c < jz s 2) (hq : q < 32) (h : kk (jvOp (jvNt (jvAk s e c q) t (jz s 34) 0 0) (fun r => nI (2 * r + jaBn (jaBt (e (9 * jvId s r + 3)) q)))) (jaU σ k S)) : jaDe D jy_St_whoAsks [jcSt k, .inl (nI c), .inl (nI q), .inl t] (jaU σ k S) (jaKi kk) := by
  obtain ⟨D, rfl, hD⟩ := jaSuc hD
  have hc3 : c < 3 := by have := hW.w.2.2.1.2.2; omega
  have hO := hW.o.ord
  have hP := hW.o.pool.2
  have o60 : S.1 60 0 1 = nI (jz s 34) := hR.o.2.1.trans hO.1
  apply js_St_whoAsks
  have L : ∀ m j n u6 u7 u8, j + m = jz s 34 → n ≤ j → kk (jvOp (jvNt (jvAk s e c q) t m j n) (fun r => nI (2 * r + jaBn (jaBt (e (9 * jvId s r + 3)) q)))) (jaU σ k S) → jc_St_whoAsks_1 D kk k (nI c) (nI q) t (nI n) (nI j) u6 u7 u8 (jaU σ k S) := by
    intro m
    induction m with
    | zero =>
      intro j n u6 u7 u8 hj hn hk
      apply jb_St_whoAsks_1
      simp (disch := first | omega | decide) only [jaU_eq, jaU_U, nI_add, pk_mul, jaIx_nI, vp_inT, true_and, and_true, ↓jaO0, ↓jaO1, nI_z, nI_z2, nI_z3, nI_z4, nI_z5, nI_lt', nI_le', nI_eq', jaUI_at, jaPt_eq, jaPt_ne, jaUI_o, jaUI_2, jaUL_at, jaUL_o, jaUL_1, jaB_z, jaB_1, ↓jaB_01, Classical.not_not, and_self, true_or, or_true, nI_11, Nat.reduceEqDiff, Nat.reduceAdd, Nat.reduceMul, Nat.add_zero, Nat.zero_add, Nat.mul_zero, not_true_eq_false, not_false_eq_true, false_implies, true_implies, o60]
      refine ⟨fun _ => ?_, fun q => absurd (by omega) q⟩
      exact hk
    | succ m ih =>
      intro j n u6 u7 u8 hj hn hk
      have hjl : j < jz s 34 := by omega
      obtain ⟨a1, a2⟩ := hW.o.id hjl
      have o1 : S.1 68 0 j = nI (jz s (41 + j)) := ((hR.o.2.2.1 j hjl).1).trans a1
      obtain ⟨-, i2, i3, -, -⟩ := hR.e _ a2
      have i2 : S.1 62 0 (jz s (41 + j)) = e (9 * jz s (41 + j) + 2) := i2
      have i3 : S.1 63 0 (jz s (41 + j)) = e (9 * jz s (41 + j) + 3) := i3
      have hII : jvId s j = jz s (41 + j) := rfl
      rw [jvNt] at hk
      unfold jvAk at hk
      apply jb_St_whoAsks_1
      simp (disch := first | omega | decide) only [jaU_eq, jaU_U, nI_add, pk_mul, jaIx_nI, vp_inT, true_and, and_true, ↓jaO0, ↓jaO1, nI_z, nI_z2, nI_z3, nI_z4, nI_z5, nI_lt', nI_le', nI_eq', jaUI_at, jaPt_eq, jaPt_ne, jaUI_o, jaUI_2, jaUL_at, jaUL_o, jaUL_1, jaB_z, jaB_1, ↓jaB_01, Classical.not_not, and_self, true_or, or_true, nI_11, Nat.reduceEqDiff, Nat.reduceAdd, Nat.reduceMul, Nat.add_zero, Nat.zero_add, Nat.mul_zero, not_true_eq_false, not_false_eq_true, false_implies, true_implies, o60, o1, i2, i3]
      rw [jaBt_v hq, jaBt_v hq]
      have b1 := jaBn_le (p := jaBt (e (9 * jz s (41 + j) + 3)) q)
      have b2 := jaBn_le (p := jaBt (e (9 * jz s (41 + j) + 2)) q)
      rw [hII] at hk
      simp (disch := first | omega | decide) only [jaU_eq, jaU_U, nI_add, pk_mul, jaIx_nI, vp_inT, true_and, and_true, ↓jaO0, ↓jaO1, nI_z, nI_z2, nI_z3, nI_z4, nI_z5, nI_lt', nI_le', nI_eq', jaUI_at, jaPt_eq, jaPt_ne, jaUI_o, jaUI_2, jaUL_at, jaUL_o, jaUL_1, jaB_z, jaB_1, ↓jaB_01, Classical.not_not, and_self, true_or, or_true, nI_11, Nat.reduceEqDiff, Nat.reduceAdd, Nat.reduceMul, Nat.add_zero, Nat.zero_add, Nat.mul_zero, not_true_eq_false, not_false_eq_true, false_implies, true_implies]
      refine ⟨fun q => absurd q (by omega), fun _ => ?_⟩
      have hor : (0 < jaBn (jaBt (e (9 * jz s (41 + j) + 3)) q) + jaBn (jaBt (e (9 * jz s (41 + j) + 2)) q)) ↔ (jaBt (e (9 * jz s (41 + j) + 3)) q ∨ jaBt (e (9 * jz s (41 + j) + 2)) q) := by
        by_cases x1 : jaBt (e (9 * jz s (41 + j) + 3)) q
        · rw [jaBn_t x1]
          exact ⟨fun _ => Or.inl x1, fun _ => by omega⟩
        · rw [jaBn_f x1]
          by_cases x2 : jaBt (e (9 * jz s (41 + j) + 2)) q
          · rw [jaBn_t x2]
            exact ⟨fun _ => Or.inr x2, fun _ => by omega⟩
          · rw [jaBn_f x2]
            exact ⟨fun z => absurd z (by omega), fun z => z.elim (fun y => absurd y x1) (fun y => absurd y x2)⟩
      have hno : ¬ (¬ jvOv s c j ∧ (jaBt (e (9 * jz s (41 + j) + 3)) q ∨ jaBt (e (9 * jz s (41 + j) + 2)) q)) → ∀ u6 u7 u8, jc_St_whoAsks_1 D kk k (nI c) (nI q) t (nI n) (nI (j + 1)) u6 u7 u8 (jaU σ k S) := fun z u6 u7 u8 => by
        rw [jaIf1_f z] at hk
        exact ih (j + 1) n u6 u7 u8 (by omega) (by omega) hk
      refine ⟨fun z => hno (fun y => ?_) _ _ _, fun z => ?_⟩
      · have := hor.mpr y.2
        omega
      · refine sp_Cp_isExecuted (by omega) hR hW.c hc hc3 hjl (by omega) ?_
        simp (disch := first | omega | decide) only [jaU_eq, jaU_U, nI_add, pk_mul, jaIx_nI, vp_inT, true_and, and_true, ↓jaO0, ↓jaO1, nI_z, nI_z2, nI_z3, nI_z4, nI_z5, nI_lt', nI_le', nI_eq', jaUI_at, jaPt_eq, jaPt_ne, jaUI_o, jaUI_2, jaUL_at, jaUL_o, jaUL_1, jaB_z, jaB_1, ↓jaB_01, Classical.not_not, and_self, true_or, or_true, nI_11, Nat.reduceEqDiff, Nat.reduceAdd, Nat.reduceMul, Nat.add_zero, Nat.zero_add, Nat.mul_zero, not_true_eq_false, not_false_eq_true, false_implies, true_implies]
        refine ⟨fun z2 => hno (fun y => y.1 z2) _ _ _, fun z2 => ?_⟩
        have hy : ¬ jvOv s c j ∧ (jaBt (e (9 * jz s (41 + j) + 3)) q ∨ jaBt (e (9 * jz s (41 + j) + 2)) q) := ⟨z2, hor.mp (by omega)⟩
        rw [jaIf1_t hy] at hk
        refine ⟨fun z3 => ?_, fun z3 => ?_⟩
        · rw [jaIf1_f z3] at hk
          exact ih (j + 1) (n + 1) _ _ _ (by omega) (by omega) hk
        · rw [jaIf1_t z3] at hk
          exact hk
  exact L (jz s 34) 0 0 _ _ _ (by omega) (Nat.le_refl _) h
end
