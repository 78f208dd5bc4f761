section
/-! draws -/
def jvZ (z : Int32) : Int32 := z * nI 1103515245 + nI 12345
def jvQ (z : Int32) (n : Nat) : Nat := z.toBitVec.toNat / 256 % n
theorem jvQ_lt {z : Int32} {n : Nat} (h : 0 < n) : jvQ z n < n := Nat.mod_lt _ h
theorem jvU_n (z : Int32) : ∃ m, m < 16777216 ∧ m = z.toBitVec.toNat / 256 ∧ (z.toUInt32 >>> (Int32.toUInt32 (nI 8) &&& Int32.toUInt32 31)).toInt32 = nI m := by
  have h := pk_ushr z (nI 8) 8 (by decide)
  have hz := z.toBitVec.isLt
  refine ⟨_, by omega, rfl, ?_⟩
  generalize (z.toUInt32 >>> (Int32.toUInt32 (nI 8) &&& Int32.toUInt32 31)).toInt32 = u at *
  refine Int32.toBitVec_inj.mp ?_
  show u.toBitVec = BitVec.ofNat 32 (z.toBitVec.toNat / 256)
  rw [show (256 : Nat) = 2 ^ 8 from rfl, ← h, BitVec.ofNat_toNat, BitVec.setWidth_eq]
theorem jvD_n {z : Int32} {n : Nat} (h : 0 < n) (hn : n < 2147483648) : (z.toUInt32 >>> (Int32.toUInt32 (nI 8) &&& Int32.toUInt32 31)).toInt32 - (z.toUInt32 >>> (Int32.toUInt32 (nI 8) &&& Int32.toUInt32 31)).toInt32 / nI n * nI n = nI (jvQ z n) := by
  obtain ⟨m, h1, h2, h3⟩ := jvU_n z
  rw [h3, pk_rem (by omega) h hn, h2]
  rfl
theorem sp_M_draw {D : Nat} (hD : 1 ≤ D) {kk : Int32 → jaT → Prop} {σ : jaT} {S : jaS} {z : Int32} (hz : S.1 70 0 40 = z) {N : Nat} (h1 : 0 < N) (h2 : N < 2147483648) (h : kk (nI (jvQ (jvZ z) N)) (jaU σ 20 (jaUI S 70 0 40 (jvZ z)))) : jaDe D jy_M_draw [jaMo, .inl (nI N)] (jaU σ 20 S) (jaKi kk) := by
  obtain ⟨D, rfl, hD⟩ := jaSuc hD
  apply js_M_draw
  simp only [jaU_eq, jaU_U, jaUI_at, jaPt_eq, hz]
  refine ⟨nI_ne0 h1 h2, ?_⟩
  show kk ((Int32.toUInt32 (jvZ z) >>> (Int32.toUInt32 (nI 8) &&& Int32.toUInt32 31)).toInt32 - (Int32.toUInt32 (jvZ z) >>> (Int32.toUInt32 (nI 8) &&& Int32.toUInt32 31)).toInt32 / nI N * nI N) (jaU σ 20 (jaUI S 70 0 40 (jvZ z)))
  rw [jvD_n h1 h2]
  exact h
/-! the three rows together -/
abbrev jvX : Type := jvA × jvA × jvA
def jK3 (x y : jvX) : Prop := (∀ j, j < 31 ∨ 525 ≤ j → y.1 j = x.1 j) ∧ (∀ j, j < 133 * jz x.1 32 → y.2.1 j = x.2.1 j) ∧ (∀ j, j < 9 * jz x.1 33 → y.2.2 j = x.2.2 j) ∧ jz x.1 32 ≤ jz y.1 32 ∧ jz x.1 33 ≤ jz y.1 33
theorem jK3.rfl {x : jvX} : jK3 x x := ⟨fun _ _ => Eq.refl _, fun _ _ => Eq.refl _, fun _ _ => Eq.refl _, Nat.le_refl _, Nat.le_refl _⟩
theorem jK3.trans {x y z : jvX} (h : jK3 x y) (h' : jK3 y z) : jK3 x z :=
  ⟨fun j hj => (h'.1 j hj).trans (h.1 j hj), fun j hj => (h'.2.1 j (by have := h.2.2.2.1; omega)).trans (h.2.1 j hj), fun j hj => (h'.2.2.1 j (by have := h.2.2.2.2; omega)).trans (h.2.2.1 j hj), Nat.le_trans h.2.2.2.1 h'.2.2.2.1, Nat.le_trans h.2.2.2.2 h'.2.2.2.2⟩
def jW3 (x : jvX) : Prop := jW x.1 x.2.1 x.2.2
noncomputable def jvT3 (x : jvX) : jvX := ((jvTick x.2.1 (x.1, x.2.2)).1, x.2.1, (jvTick x.2.1 (x.1, x.2.2)).2)
noncomputable def jvTs3 (x : jvX) : Nat → jvX := jaRec (fun _ => jvT3) x
theorem jvTs3_eq {s d e : jvA} : ∀ n, jvTs3 (s, d, e) n = ((jvTicks d (s, e) n).1, d, (jvTicks d (s, e) n).2)
  | 0 => rfl
  | n + 1 => by
    show jvT3 (jvTs3 (s, d, e) n) = _
    rw [jvTs3_eq n]
    rfl
theorem jvT3_W {x : jvX} (h : jW3 x) (ht : jz x.1 31 < 3000) : jW3 (jvT3 x) ∧ jK3 x (jvT3 x) ∧ jz (jvT3 x).1 31 = jz x.1 31 + 1 := by
  obtain ⟨s, d, e⟩ := x
  obtain ⟨a, b, c, f, g⟩ := jvTick_W (s := s) (d := d) (e := e) h ht
  refine ⟨a, ⟨fun j hj => b j (by unfold jKt; omega), fun _ _ => rfl, c, ?_, f⟩, g⟩
  exact Nat.le_of_eq (jz_c (b 32 (Or.inr (Or.inl rfl)))).symm
theorem jvTs3_W {x : jvX} (h : jW3 x) : ∀ n, jz x.1 31 + n < 3000 → jW3 (jvTs3 x n) ∧ jK3 x (jvTs3 x n) ∧ jz (jvTs3 x n).1 31 = jz x.1 31 + n
  | 0, _ => ⟨h, jK3.rfl, rfl⟩
  | n + 1, hn => by
    obtain ⟨a, b, c⟩ := jvTs3_W h n (by omega)
    obtain ⟨a2, b2, c2⟩ := jvT3_W a (by omega)
    refine ⟨a2, b.trans b2, ?_⟩
    show jz (jvT3 (jvTs3 x n)).1 31 = _
    omega
theorem jvPuts_K {s d e : jvA} {x : Int32} {n : Nat} (h : jW s d e) (h24 : jz s 32 < 24) : jK3 (s, d, e) (jvPuts s d e x n) ∧ jz (jvPuts s d e x n).1 31 = jz s 31 := by
  have hC := h.o.came.2
  have hP := h.o.pool
  have h32 := h.o.many
  have e35 : jz (jaPt s 32 (s 32 + nI 1)) 35 = jz s 35 := jz_c (jaPt_ne (by decide))
  have hcl := jaCnt_le (p := fun i => s (415 + i) = nI 1) (jz s 34)
  have hp1 := h.o.2.2.2.2.1
  have hp2 := h.o.2.2.2.2.2.1
  have hO := h.O
  have e33 : jz (jaPt s 32 (s 32 + nI 1)) 33 = jz s 33 := jz_c (jaPt_ne (by decide))
  have ne : ∀ j, j ≠ 32 → j ≠ 33 → j ≠ 35 → ¬ (81 ≤ j ∧ j < 145) → (jvPuts s d e x n).1 j = s j := fun j a b c f => by
    show jvComeS (jaPt s 32 (s 32 + nI 1)) j = s j
    rw [jvComeS_ne b c (by rw [e35]; omega), jaPt_ne a]
  refine ⟨⟨fun j hj => ne j (by omega) (by omega) (by omega) (by omega), fun j hj => jvPd_old hj, fun j hj => jvComeE_old (by rw [e33]; exact hj), ?_, ?_⟩, jz_c (ne 31 (by omega) (by omega) (by omega) (by omega))⟩
  · show jz s 32 ≤ jaIx (jvComeS (jaPt s 32 (s 32 + nI 1)) 32)
    rw [jvComeS_ne (by omega) (by omega) (by omega), jaPt_eq, h32.1, nI_add, jaIx_nI (by omega)]
    omega
  · show jz s 33 ≤ jaIx (jvComeS (jaPt s 32 (s 32 + nI 1)) 33)
    rw [jvComeS_33, jaPt_ne (by omega), hP.1, nI_add, jaIx_nI (by have := hP.2; omega)]
    omega
theorem jK3_s {s s' d e : jvA} (h : ∀ j, j < 31 ∨ 525 ≤ j ∨ j = 32 ∨ j = 33 → s' j = s j) : jK3 (s, d, e) (s', d, e) :=
  ⟨fun j hj => h j (by omega), fun _ _ => rfl, fun _ _ => rfl, Nat.le_of_eq (jz_c (h 32 (by omega))).symm, Nat.le_of_eq (jz_c (h 33 (by omega))).symm⟩
theorem jvCr_n {s : jvA} {c j : Nat} (hc : c < 3) (h : j < 34 ∨ 525 ≤ j) : jvCr s c j = s j := by
  rw [jvCr_ne hc (by omega), jvC0_ne (by omega)]
theorem jvCh_n {s : jvA} {j : Nat} (h10 : jz s 1 ≤ 10) (h : j < 34 ∨ 525 ≤ j) : jvCh s j = s j := by
  unfold jvCh
  have e1 : jz (jaPt (jaPt s 36 (nI 1)) 37 (s 34)) 1 = jz s 1 := jz_c (by rw [jaPt_ne (by decide), jaPt_ne (by decide)])
  by_cases q : s 1 = 0
  · rw [jaIf1_t q, jvSa_ne (by rw [e1]; exact h10) (by omega), jaPt_ne (by omega), jaPt_ne (by omega)]
  · rw [jaIf1_f q, jaPt_ne (by omega), jaPt_ne (by omega)]
/-- what is drawn, and done -/
noncomputable def jvDeed (x : jvX) (z : Int32) : jvX × Int32 :=
  jaIf1 (jvQ (jvZ z) 6 < 2 ∧ 0 < jz x.1 0 ∧ 0 < jz x.1 32)
    (jaIf1 (jz x.1 32 < 24) (jvPuts x.1 x.2.1 x.2.2 (nI (jvQ (jvZ (jvZ z)) (jz x.1 0))) (jvQ (jvZ (jvZ (jvZ z))) (jz x.1 32))) x, jvZ (jvZ (jvZ z)))
    (jaIf1 (jvQ (jvZ z) 6 = 2) (jaIf1 (jvQ (jvZ (jvZ (jvZ z))) 4 = 0 ∧ 0 < jz x.1 34) (jvCr x.1 (jvQ (jvZ (jvZ z)) (jz x.1 2)), x.2) x, jvZ (jvZ (jvZ z)))
      (jaIf1 (jvQ (jvZ z) 6 = 3 ∧ x.1 36 = 0) (jvCh x.1, x.2) x, jvZ z))
theorem jvDeed_W {x : jvX} {z : Int32} (h : jW3 x) : jW3 (jvDeed x z).1 ∧ jK3 x (jvDeed x z).1 ∧ jz (jvDeed x z).1.1 31 = jz x.1 31 := by
  obtain ⟨s, d, e⟩ := x
  have h : jW s d e := h
  obtain ⟨h0, h03⟩ := h.w.1
  have h2 := h.w.2.2.1
  have h10 := h.w.2.1.2
  unfold jvDeed
  by_cases q1 : jvQ (jvZ z) 6 < 2 ∧ 0 < jz s 0 ∧ 0 < jz s 32
  · rw [jaIf1_t q1]
    by_cases q2 : jz s 32 < 24
    · have hq := jvQ_lt (z := jvZ (jvZ z)) q1.2.1
      simp only []
      rw [jaIf1_t q2]
      exact ⟨(jvPuts_W h q2 (jvQ_lt q1.2.2) (by rw [jaIx_nI (by omega)]) (by rw [jaIx_nI (by omega)]; omega)).1, jvPuts_K h q2⟩
    · simp only []
      rw [jaIf1_f q2]
      exact ⟨h, jK3.rfl, rfl⟩
  · rw [jaIf1_f q1]
    by_cases q2 : jvQ (jvZ z) 6 = 2
    · rw [jaIf1_t q2]
      have hq := jvQ_lt (z := jvZ (jvZ z)) (show 0 < jz s 2 by omega)
      by_cases q3 : jvQ (jvZ (jvZ (jvZ z))) 4 = 0 ∧ 0 < jz s 34
      · simp only []
        rw [jaIf1_t q3]
        have hcr := jvCr_n (s := s) (c := jvQ (jvZ (jvZ z)) (jz s 2)) (j := 31) (by omega) (by omega)
        exact ⟨jvCr_W h (by omega), jK3_s (fun j hj => jvCr_n (by omega) (by omega)), jz_c hcr⟩
      · simp only []
        rw [jaIf1_f q3]
        exact ⟨h, jK3.rfl, rfl⟩
    · rw [jaIf1_f q2]
      by_cases q3 : jvQ (jvZ z) 6 = 3 ∧ s 36 = 0
      · simp only []
        rw [jaIf1_t q3]
        exact ⟨jvCh_W h (q3.2.trans nI_0.symm), jK3_s (fun j hj => jvCh_n h10 (by omega)), jz_c (jvCh_n h10 (by omega))⟩
      · simp only []
        rw [jaIf1_f q3]
        exact ⟨h, jK3.rfl, rfl⟩
set_option maxHeartbeats 2000000 in
theorem sp_M_drawDeed {D : Nat} (hD : 5 ≤ D) {kk : jaT → Prop} {σ : jaT} {S : jaS} {x : jvX} {z : Int32} (hs : S.1 72 0 = x.1) (hd : S.1 75 0 = x.2.1) (he : S.1 76 0 = x.2.2) (hz : S.1 70 0 40 = z) (hW : jW3 x)
    (h : ∀ S', S'.1 72 0 = (jvDeed x z).1.1 → S'.1 75 0 = (jvDeed x z).1.2.1 → S'.1 76 0 = (jvDeed x z).1.2.2 → S'.1 70 0 40 = (jvDeed x z).2 → jaFr [72, 75, 76] [40] S S' → kk (jaU σ 20 S')) : jaDe D jy_M_drawDeed [jaMo] (jaU σ 20 S) (jaKv kk) := by
  obtain ⟨D, rfl, hD⟩ := jaSuc hD
  obtain ⟨s, d, e⟩ := x
  have hW : jW s d e := hW
  simp only [] at hs hd he
  obtain ⟨h0, h03⟩ := hW.w.1
  obtain ⟨h2, h2a, h2b⟩ := hW.w.2.2.1
  have hM := hW.o.many
  have hO := hW.o.ord
  have hq6 := jvQ_lt (z := jvZ z) (show 0 < 6 by decide)
  have hq2 := jvQ_lt (z := jvZ (jvZ z)) (show 0 < jz s 2 by omega)
  have hq4 := jvQ_lt (z := jvZ (jvZ (jvZ z))) (show 0 < 4 by decide)
  have hsame : ∀ S' : jaS, S'.1 72 0 = s → S'.1 75 0 = d → S'.1 76 0 = e → jaFr [72, 75, 76] [40] S S' → ∀ z', S'.1 70 0 40 = z' → (jvDeed (s, d, e) z = ((s, d, e), z')) → kk (jaU σ 20 S') := fun S' a b c f z' g q => h S' (by rw [q]; exact a) (by rw [q]; exact b) (by rw [q]; exact c) (by rw [q]; exact g) f
  unfold jvDeed at h hsame
  simp only [] at h hsame
  have hF1 : jaFr [72, 75, 76] [40] S (jaUI S 70 0 40 (jvZ z)) := by
    (repeat' first | assumption | exact jaFr.rfl | refine jaFr.ui ?_ (by decide) (by decide) | refine jaFr.uf ?_ (by decide) | exact jaFr.mono (by assumption) (by decide) (by decide))
  have hs1 : (jaUI S 70 0 40 (jvZ z)).1 72 0 = s := by
    simp (disch := first | omega | decide) only [jaU_eq, jaU_U, nI_add, pk_mul, jaIx_nI, vp_inT, true_and, and_true, ↓jaO0, ↓jaO1, nI_z, nI_z2, nI_z3, nI_z4, nI_z5, nI_lt', nI_le', nI_eq', jaUI_at, jaPt_eq, jaPt_ne, jaUI_o, jaUI_2, jaUL_at, jaUL_o, jaUL_1, jaB_z, jaB_1, ↓jaB_01, Classical.not_not, and_self, true_or, or_true, nI_11, Nat.reduceEqDiff, Nat.reduceAdd, Nat.reduceMul, Nat.add_zero, Nat.zero_add, Nat.mul_zero, not_true_eq_false, not_false_eq_true, false_implies, true_implies, hs]
  have hd1 : (jaUI S 70 0 40 (jvZ z)).1 75 0 = d := by
    simp (disch := first | omega | decide) only [jaU_eq, jaU_U, nI_add, pk_mul, jaIx_nI, vp_inT, true_and, and_true, ↓jaO0, ↓jaO1, nI_z, nI_z2, nI_z3, nI_z4, nI_z5, nI_lt', nI_le', nI_eq', jaUI_at, jaPt_eq, jaPt_ne, jaUI_o, jaUI_2, jaUL_at, jaUL_o, jaUL_1, jaB_z, jaB_1, ↓jaB_01, Classical.not_not, and_self, true_or, or_true, nI_11, Nat.reduceEqDiff, Nat.reduceAdd, Nat.reduceMul, Nat.add_zero, Nat.zero_add, Nat.mul_zero, not_true_eq_false, not_false_eq_true, false_implies, true_implies, hd]
  have he1 : (jaUI S 70 0 40 (jvZ z)).1 76 0 = e := by
    simp (disch := first | omega | decide) only [jaU_eq, jaU_U, nI_add, pk_mul, jaIx_nI, vp_inT, true_and, and_true, ↓jaO0, ↓jaO1, nI_z, nI_z2, nI_z3, nI_z4, nI_z5, nI_lt', nI_le', nI_eq', jaUI_at, jaPt_eq, jaPt_ne, jaUI_o, jaUI_2, jaUL_at, jaUL_o, jaUL_1, jaB_z, jaB_1, ↓jaB_01, Classical.not_not, and_self, true_or, or_true, nI_11, Nat.reduceEqDiff, Nat.reduceAdd, Nat.reduceMul, Nat.add_zero, Nat.zero_add, Nat.mul_zero, not_true_eq_false, not_false_eq_true, false_implies, true_implies, he]
  have hz1 : (jaUI S 70 0 40 (jvZ z)).1 70 0 40 = jvZ z := by
    simp (disch := first | omega | decide) only [jaU_eq, jaU_U, nI_add, pk_mul, jaIx_nI, vp_inT, true_and, and_true, ↓jaO0, ↓jaO1, nI_z, nI_z2, nI_z3, nI_z4, nI_z5, nI_lt', nI_le', nI_eq', jaUI_at, jaPt_eq, jaPt_ne, jaUI_o, jaUI_2, jaUL_at, jaUL_o, jaUL_1, jaB_z, jaB_1, ↓jaB_01, Classical.not_not, and_self, true_or, or_true, nI_11, Nat.reduceEqDiff, Nat.reduceAdd, Nat.reduceMul, Nat.add_zero, Nat.zero_add, Nat.mul_zero, not_true_eq_false, not_false_eq_true, false_implies, true_implies]
  -- a copy crashes, or a check
  have B : ¬ (jvQ (jvZ z) 6 < 2 ∧ 0 < jz s 0 ∧ 0 < jz s 32) → ((¬ jvQ (jvZ z) 6 = 2 → (¬ jvQ (jvZ z) 6 = 3 → kk (jaU σ 20 (jaUI S 70 0 40 (jvZ z)))) ∧ (jvQ (jvZ z) 6 = 3 → (¬ s 36 = 0 → kk (jaU σ 20 (jaUI S 70 0 40 (jvZ z)))) ∧ (s 36 = 0 → jaDe D jy_M_checks [jaMo] (jaU σ 20 (jaUI S 70 0 40 (jvZ z))) (jaKv kk)))) ∧
      (jvQ (jvZ z) 6 = 2 → jaDe D jy_M_draw [jaMo, .inl (nI (jz s 2))] (jaU σ 20 (jaUI S 70 0 40 (jvZ z))) (jaKi fun r5 σ4 => jaDe D jy_M_draw [jaMo, .inl (nI 4)] σ4 (jaKi fun r7 σ6 => (¬ r7 = 0 → kk σ6) ∧ (r7 = 0 → vp_in (nI 34) 706 ∧ ((((σ6 20).1 72 0 (jaIx (nI 34))) ≤ 0 → kk σ6) ∧ (¬ ((σ6 20).1 72 0 (jaIx (nI 34))) ≤ 0 → jaDe D jy_M_crashes [jaMo, .inl r5] σ6 (jaKv kk)))))))) := by
    intro q1
    rw [jaIf1_f q1] at h hsame
    refine ⟨fun q2 => ⟨fun q3 => ?_, fun q3 => ⟨fun q4 => ?_, fun q4 => ?_⟩⟩, fun q2 => ?_⟩
    · exact hsame _ hs1 hd1 he1 hF1 _ hz1 (by rw [jaIf1_f q2, jaIf1_f (fun x => q3 x.1)])
    · exact hsame _ hs1 hd1 he1 hF1 _ hz1 (by rw [jaIf1_f q2, jaIf1_f (fun x => q4 x.2)])
    · rw [jaIf1_f q2, jaIf1_t ⟨q3, q4⟩] at h
      refine sp_M_checks (by omega) hs1 hW.w (fun S3 a f => h S3 a ((congrFun (f.s 75 (by decide) (by decide)) 0).trans hd1) ((congrFun (f.s 76 (by decide) (by decide)) 0).trans he1) ((f.f 40 (by decide)).trans hz1) (hF1.trans (f.mono (by decide) (by decide))))
    · rw [jaIf1_t q2] at h hsame
      refine sp_M_draw (by omega) hz1 (by omega) (by omega) ?_
      refine sp_M_draw (z := jvZ (jvZ z)) (by omega) ?_ (by omega) (by omega) ?_
      · simp (disch := first | omega | decide) only [jaU_eq, jaU_U, nI_add, pk_mul, jaIx_nI, vp_inT, true_and, and_true, ↓jaO0, ↓jaO1, nI_z, nI_z2, nI_z3, nI_z4, nI_z5, nI_lt', nI_le', nI_eq', jaUI_at, jaPt_eq, jaPt_ne, jaUI_o, jaUI_2, jaUL_at, jaUL_o, jaUL_1, jaB_z, jaB_1, ↓jaB_01, Classical.not_not, and_self, true_or, or_true, nI_11, Nat.reduceEqDiff, Nat.reduceAdd, Nat.reduceMul, Nat.add_zero, Nat.zero_add, Nat.mul_zero, not_true_eq_false, not_false_eq_true, false_implies, true_implies]
      · have hF3 : jaFr [72, 75, 76] [40] S (jaUI (jaUI (jaUI S 70 0 40 (jvZ z)) 70 0 40 (jvZ (jvZ z))) 70 0 40 (jvZ (jvZ (jvZ z)))) := by
          (repeat' first | refine jaFr.ui ?_ (by decide) (by decide) | refine jaFr.uf ?_ (by decide) | assumption | exact jaFr.rfl | exact jaFr.mono (by assumption) (by decide) (by decide))
        have hs3 : (jaUI (jaUI (jaUI S 70 0 40 (jvZ z)) 70 0 40 (jvZ (jvZ z))) 70 0 40 (jvZ (jvZ (jvZ z)))).1 72 0 = s := by
          simp (disch := first | omega | decide) only [jaU_eq, jaU_U, nI_add, pk_mul, jaIx_nI, vp_inT, true_and, and_true, ↓jaO0, ↓jaO1, nI_z, nI_z2, nI_z3, nI_z4, nI_z5, nI_lt', nI_le', nI_eq', jaUI_at, jaPt_eq, jaPt_ne, jaUI_o, jaUI_2, jaUL_at, jaUL_o, jaUL_1, jaB_z, jaB_1, ↓jaB_01, Classical.not_not, and_self, true_or, or_true, nI_11, Nat.reduceEqDiff, Nat.reduceAdd, Nat.reduceMul, Nat.add_zero, Nat.zero_add, Nat.mul_zero, not_true_eq_false, not_false_eq_true, false_implies, true_implies, hs]
        have hd3 : (jaUI (jaUI (jaUI S 70 0 40 (jvZ z)) 70 0 40 (jvZ (jvZ z))) 70 0 40 (jvZ (jvZ (jvZ z)))).1 75 0 = d := by
          simp (disch := first | omega | decide) only [jaU_eq, jaU_U, nI_add, pk_mul, jaIx_nI, vp_inT, true_and, and_true, ↓jaO0, ↓jaO1, nI_z, nI_z2, nI_z3, nI_z4, nI_z5, nI_lt', nI_le', nI_eq', jaUI_at, jaPt_eq, jaPt_ne, jaUI_o, jaUI_2, jaUL_at, jaUL_o, jaUL_1, jaB_z, jaB_1, ↓jaB_01, Classical.not_not, and_self, true_or, or_true, nI_11, Nat.reduceEqDiff, Nat.reduceAdd, Nat.reduceMul, Nat.add_zero, Nat.zero_add, Nat.mul_zero, not_true_eq_false, not_false_eq_true, false_implies, true_implies, hd]
        have he3 : (jaUI (jaUI (jaUI S 70 0 40 (jvZ z)) 70 0 40 (jvZ (jvZ z))) 70 0 40 (jvZ (jvZ (jvZ z)))).1 76 0 = e := by
          simp (disch := first | omega | decide) only [jaU_eq, jaU_U, nI_add, pk_mul, jaIx_nI, vp_inT, true_and, and_true, ↓jaO0, ↓jaO1, nI_z, nI_z2, nI_z3, nI_z4, nI_z5, nI_lt', nI_le', nI_eq', jaUI_at, jaPt_eq, jaPt_ne, jaUI_o, jaUI_2, jaUL_at, jaUL_o, jaUL_1, jaB_z, jaB_1, ↓jaB_01, Classical.not_not, and_self, true_or, or_true, nI_11, Nat.reduceEqDiff, Nat.reduceAdd, Nat.reduceMul, Nat.add_zero, Nat.zero_add, Nat.mul_zero, not_true_eq_false, not_false_eq_true, false_implies, true_implies, he]
        have hz3 : (jaUI (jaUI (jaUI S 70 0 40 (jvZ z)) 70 0 40 (jvZ (jvZ z))) 70 0 40 (jvZ (jvZ (jvZ z)))).1 70 0 40 = jvZ (jvZ (jvZ z)) := by
          simp (disch := first | omega | decide) only [jaU_eq, jaU_U, nI_add, pk_mul, jaIx_nI, vp_inT, true_and, and_true, ↓jaO0, ↓jaO1, nI_z, nI_z2, nI_z3, nI_z4, nI_z5, nI_lt', nI_le', nI_eq', jaUI_at, jaPt_eq, jaPt_ne, jaUI_o, jaUI_2, jaUL_at, jaUL_o, jaUL_1, jaB_z, jaB_1, ↓jaB_01, Classical.not_not, and_self, true_or, or_true, nI_11, Nat.reduceEqDiff, Nat.reduceAdd, Nat.reduceMul, Nat.add_zero, Nat.zero_add, Nat.mul_zero, not_true_eq_false, not_false_eq_true, false_implies, true_implies]
        generalize jaUI (jaUI (jaUI S 70 0 40 (jvZ z)) 70 0 40 (jvZ (jvZ z))) 70 0 40 (jvZ (jvZ (jvZ z))) = S3 at *
        simp (disch := first | omega | decide) only [jaU_eq, jaU_U, nI_add, pk_mul, jaIx_nI, vp_inT, true_and, and_true, ↓jaO0, ↓jaO1, nI_z, nI_z2, nI_z3, nI_z4, nI_z5, nI_lt', nI_le', nI_eq', jaUI_at, jaPt_eq, jaPt_ne, jaUI_o, jaUI_2, jaUL_at, jaUL_o, jaUL_1, jaB_z, jaB_1, ↓jaB_01, Classical.not_not, and_self, true_or, or_true, nI_11, Nat.reduceEqDiff, Nat.reduceAdd, Nat.reduceMul, Nat.add_zero, Nat.zero_add, Nat.mul_zero, not_true_eq_false, not_false_eq_true, false_implies, true_implies, hs3]
        rw [hO.1]
        simp (disch := first | omega | decide) only [jaU_eq, jaU_U, nI_add, pk_mul, jaIx_nI, vp_inT, true_and, and_true, ↓jaO0, ↓jaO1, nI_z, nI_z2, nI_z3, nI_z4, nI_z5, nI_lt', nI_le', nI_eq', jaUI_at, jaPt_eq, jaPt_ne, jaUI_o, jaUI_2, jaUL_at, jaUL_o, jaUL_1, jaB_z, jaB_1, ↓jaB_01, Classical.not_not, and_self, true_or, or_true, nI_11, Nat.reduceEqDiff, Nat.reduceAdd, Nat.reduceMul, Nat.add_zero, Nat.zero_add, Nat.mul_zero, not_true_eq_false, not_false_eq_true, false_implies, true_implies]
        refine ⟨fun q3 => ?_, fun q3 => ⟨fun q4 => ?_, fun q4 => ?_⟩⟩
        · exact hsame _ hs3 hd3 he3 hF3 _ hz3 (by rw [jaIf1_f (fun x => q3 x.1)])
        · exact hsame _ hs3 hd3 he3 hF3 _ hz3 (by rw [jaIf1_f (fun x => by have := x.2; omega)])
        · rw [jaIf1_t (⟨q3, by omega⟩ : jvQ (jvZ (jvZ (jvZ z))) 4 = 0 ∧ 0 < jz s 34)] at h
          exact sp_M_crashes (by omega) hs3 (by omega) (fun S4 a f => h S4 a ((congrFun (f.s 75 (by decide) (by decide)) 0).trans hd3) ((congrFun (f.s 76 (by decide) (by decide)) 0).trans he3) ((f.f 40 (by decide)).trans hz3) (hF3.trans (f.mono (by decide) (by decide))))
  apply js_M_drawDeed
  refine sp_M_draw (by omega) hz (by omega) (by omega) ?_
  simp (disch := first | omega | decide) only [jaU_eq, jaU_U, nI_add, pk_mul, jaIx_nI, vp_inT, true_and, and_true, ↓jaO0, ↓jaO1, nI_z, nI_z2, nI_z3, nI_z4, nI_z5, nI_lt', nI_le', nI_eq', jaUI_at, jaPt_eq, jaPt_ne, jaUI_o, jaUI_2, jaUL_at, jaUL_o, jaUL_1, jaB_z, jaB_1, ↓jaB_01, Classical.not_not, and_self, true_or, or_true, nI_11, Nat.reduceEqDiff, Nat.reduceAdd, Nat.reduceMul, Nat.add_zero, Nat.zero_add, Nat.mul_zero, not_true_eq_false, not_false_eq_true, false_implies, true_implies, hs1]
  rw [h0, h2, hM.1]
  simp (disch := first | omega | decide) only [jaU_eq, jaU_U, nI_add, pk_mul, jaIx_nI, vp_inT, true_and, and_true, ↓jaO0, ↓jaO1, nI_z, nI_z2, nI_z3, nI_z4, nI_z5, nI_lt', nI_le', nI_eq', jaUI_at, jaPt_eq, jaPt_ne, jaUI_o, jaUI_2, jaUL_at, jaUL_o, jaUL_1, jaB_z, jaB_1, ↓jaB_01, Classical.not_not, and_self, true_or, or_true, nI_11, Nat.reduceEqDiff, Nat.reduceAdd, Nat.reduceMul, Nat.add_zero, Nat.zero_add, Nat.mul_zero, not_true_eq_false, not_false_eq_true, false_implies, true_implies]
  refine ⟨fun q1 => ?_, fun q1 => ⟨fun q2 => ?_, fun q2 => ⟨fun q3 => ?_, fun q3 => ?_⟩⟩⟩
  · have z1 := B (fun x => by have := x.1; omega)
    simp (disch := first | omega | decide) only [jaU_eq, jaU_U, nI_add, pk_mul, jaIx_nI, vp_inT, true_and, and_true, ↓jaO0, ↓jaO1, nI_z, nI_z2, nI_z3, nI_z4, nI_z5, nI_lt', nI_le', nI_eq', jaUI_at, jaPt_eq, jaPt_ne, jaUI_o, jaUI_2, jaUL_at, jaUL_o, jaUL_1, jaB_z, jaB_1, ↓jaB_01, Classical.not_not, and_self, true_or, or_true, nI_11, Nat.reduceEqDiff, Nat.reduceAdd, Nat.reduceMul, Nat.add_zero, Nat.zero_add, Nat.mul_zero, not_true_eq_false, not_false_eq_true, false_implies, true_implies] at z1
    exact z1
  · have z1 := B (fun x => by have := x.2.1; omega)
    simp (disch := first | omega | decide) only [jaU_eq, jaU_U, nI_add, pk_mul, jaIx_nI, vp_inT, true_and, and_true, ↓jaO0, ↓jaO1, nI_z, nI_z2, nI_z3, nI_z4, nI_z5, nI_lt', nI_le', nI_eq', jaUI_at, jaPt_eq, jaPt_ne, jaUI_o, jaUI_2, jaUL_at, jaUL_o, jaUL_1, jaB_z, jaB_1, ↓jaB_01, Classical.not_not, and_self, true_or, or_true, nI_11, Nat.reduceEqDiff, Nat.reduceAdd, Nat.reduceMul, Nat.add_zero, Nat.zero_add, Nat.mul_zero, not_true_eq_false, not_false_eq_true, false_implies, true_implies] at z1
    exact z1
  · have z1 := B (fun x => by have := x.2.2; omega)
    simp (disch := first | omega | decide) only [jaU_eq, jaU_U, nI_add, pk_mul, jaIx_nI, vp_inT, true_and, and_true, ↓jaO0, ↓jaO1, nI_z, nI_z2, nI_z3, nI_z4, nI_z5, nI_lt', nI_le', nI_eq', jaUI_at, jaPt_eq, jaPt_ne, jaUI_o, jaUI_2, jaUL_at, jaUL_o, jaUL_1, jaB_z, jaB_1, ↓jaB_01, Classical.not_not, and_self, true_or, or_true, nI_11, Nat.reduceEqDiff, Nat.reduceAdd, Nat.reduceMul, Nat.add_zero, Nat.zero_add, Nat.mul_zero, not_true_eq_false, not_false_eq_true, false_implies, true_implies] at z1
    exact z1
  · have hc : jvQ (jvZ z) 6 < 2 ∧ 0 < jz s 0 ∧ 0 < jz s 32 := ⟨by omega, by omega, by omega⟩
    have hqs := jvQ_lt (z := jvZ (jvZ z)) (show 0 < jz s 0 by omega)
    rw [jaIf1_t hc] at h hsame
    refine sp_M_draw (by omega) hz1 (by omega) (by omega) ?_
    have hs2 : (jaUI (jaUI S 70 0 40 (jvZ z)) 70 0 40 (jvZ (jvZ z))).1 72 0 = s := by
      simp (disch := first | omega | decide) only [jaU_eq, jaU_U, nI_add, pk_mul, jaIx_nI, vp_inT, true_and, and_true, ↓jaO0, ↓jaO1, nI_z, nI_z2, nI_z3, nI_z4, nI_z5, nI_lt', nI_le', nI_eq', jaUI_at, jaPt_eq, jaPt_ne, jaUI_o, jaUI_2, jaUL_at, jaUL_o, jaUL_1, jaB_z, jaB_1, ↓jaB_01, Classical.not_not, and_self, true_or, or_true, nI_11, Nat.reduceEqDiff, Nat.reduceAdd, Nat.reduceMul, Nat.add_zero, Nat.zero_add, Nat.mul_zero, not_true_eq_false, not_false_eq_true, false_implies, true_implies, hs]
    have hz2 : (jaUI (jaUI S 70 0 40 (jvZ z)) 70 0 40 (jvZ (jvZ z))).1 70 0 40 = jvZ (jvZ z) := by
      simp (disch := first | omega | decide) only [jaU_eq, jaU_U, nI_add, pk_mul, jaIx_nI, vp_inT, true_and, and_true, ↓jaO0, ↓jaO1, nI_z, nI_z2, nI_z3, nI_z4, nI_z5, nI_lt', nI_le', nI_eq', jaUI_at, jaPt_eq, jaPt_ne, jaUI_o, jaUI_2, jaUL_at, jaUL_o, jaUL_1, jaB_z, jaB_1, ↓jaB_01, Classical.not_not, and_self, true_or, or_true, nI_11, Nat.reduceEqDiff, Nat.reduceAdd, Nat.reduceMul, Nat.add_zero, Nat.zero_add, Nat.mul_zero, not_true_eq_false, not_false_eq_true, false_implies, true_implies]
    simp (disch := first | omega | decide) only [jaU_eq, jaU_U, nI_add, pk_mul, jaIx_nI, vp_inT, true_and, and_true, ↓jaO0, ↓jaO1, nI_z, nI_z2, nI_z3, nI_z4, nI_z5, nI_lt', nI_le', nI_eq', jaUI_at, jaPt_eq, jaPt_ne, jaUI_o, jaUI_2, jaUL_at, jaUL_o, jaUL_1, jaB_z, jaB_1, ↓jaB_01, Classical.not_not, and_self, true_or, or_true, nI_11, Nat.reduceEqDiff, Nat.reduceAdd, Nat.reduceMul, Nat.add_zero, Nat.zero_add, Nat.mul_zero, not_true_eq_false, not_false_eq_true, false_implies, true_implies, hs]
    rw [hM.1]
    refine sp_M_draw (by omega) hz2 (by omega) (by omega) ?_
    have hF3 : jaFr [72, 75, 76] [40] S (jaUI (jaUI (jaUI S 70 0 40 (jvZ z)) 70 0 40 (jvZ (jvZ z))) 70 0 40 (jvZ (jvZ (jvZ z)))) := by
      (repeat' first | refine jaFr.ui ?_ (by decide) (by decide) | refine jaFr.uf ?_ (by decide) | assumption | exact jaFr.rfl | exact jaFr.mono (by assumption) (by decide) (by decide))
    have hs3 : (jaUI (jaUI (jaUI S 70 0 40 (jvZ z)) 70 0 40 (jvZ (jvZ z))) 70 0 40 (jvZ (jvZ (jvZ z)))).1 72 0 = s := by
      simp (disch := first | omega | decide) only [jaU_eq, jaU_U, nI_add, pk_mul, jaIx_nI, vp_inT, true_and, and_true, ↓jaO0, ↓jaO1, nI_z, nI_z2, nI_z3, nI_z4, nI_z5, nI_lt', nI_le', nI_eq', jaUI_at, jaPt_eq, jaPt_ne, jaUI_o, jaUI_2, jaUL_at, jaUL_o, jaUL_1, jaB_z, jaB_1, ↓jaB_01, Classical.not_not, and_self, true_or, or_true, nI_11, Nat.reduceEqDiff, Nat.reduceAdd, Nat.reduceMul, Nat.add_zero, Nat.zero_add, Nat.mul_zero, not_true_eq_false, not_false_eq_true, false_implies, true_implies, hs]
    have hd3 : (jaUI (jaUI (jaUI S 70 0 40 (jvZ z)) 70 0 40 (jvZ (jvZ z))) 70 0 40 (jvZ (jvZ (jvZ z)))).1 75 0 = d := by
      simp (disch := first | omega | decide) only [jaU_eq, jaU_U, nI_add, pk_mul, jaIx_nI, vp_inT, true_and, and_true, ↓jaO0, ↓jaO1, nI_z, nI_z2, nI_z3, nI_z4, nI_z5, nI_lt', nI_le', nI_eq', jaUI_at, jaPt_eq, jaPt_ne, jaUI_o, jaUI_2, jaUL_at, jaUL_o, jaUL_1, jaB_z, jaB_1, ↓jaB_01, Classical.not_not, and_self, true_or, or_true, nI_11, Nat.reduceEqDiff, Nat.reduceAdd, Nat.reduceMul, Nat.add_zero, Nat.zero_add, Nat.mul_zero, not_true_eq_false, not_false_eq_true, false_implies, true_implies, hd]
    have he3 : (jaUI (jaUI (jaUI S 70 0 40 (jvZ z)) 70 0 40 (jvZ (jvZ z))) 70 0 40 (jvZ (jvZ (jvZ z)))).1 76 0 = e := by
      simp (disch := first | omega | decide) only [jaU_eq, jaU_U, nI_add, pk_mul, jaIx_nI, vp_inT, true_and, and_true, ↓jaO0, ↓jaO1, nI_z, nI_z2, nI_z3, nI_z4, nI_z5, nI_lt', nI_le', nI_eq', jaUI_at, jaPt_eq, jaPt_ne, jaUI_o, jaUI_2, jaUL_at, jaUL_o, jaUL_1, jaB_z, jaB_1, ↓jaB_01, Classical.not_not, and_self, true_or, or_true, nI_11, Nat.reduceEqDiff, Nat.reduceAdd, Nat.reduceMul, Nat.add_zero, Nat.zero_add, Nat.mul_zero, not_true_eq_false, not_false_eq_true, false_implies, true_implies, he]
    have hz3 : (jaUI (jaUI (jaUI S 70 0 40 (jvZ z)) 70 0 40 (jvZ (jvZ z))) 70 0 40 (jvZ (jvZ (jvZ z)))).1 70 0 40 = jvZ (jvZ (jvZ z)) := by
      simp (disch := first | omega | decide) only [jaU_eq, jaU_U, nI_add, pk_mul, jaIx_nI, vp_inT, true_and, and_true, ↓jaO0, ↓jaO1, nI_z, nI_z2, nI_z3, nI_z4, nI_z5, nI_lt', nI_le', nI_eq', jaUI_at, jaPt_eq, jaPt_ne, jaUI_o, jaUI_2, jaUL_at, jaUL_o, jaUL_1, jaB_z, jaB_1, ↓jaB_01, Classical.not_not, and_self, true_or, or_true, nI_11, Nat.reduceEqDiff, Nat.reduceAdd, Nat.reduceMul, Nat.add_zero, Nat.zero_add, Nat.mul_zero, not_true_eq_false, not_false_eq_true, false_implies, true_implies]
    generalize jaUI (jaUI (jaUI S 70 0 40 (jvZ z)) 70 0 40 (jvZ (jvZ z))) 70 0 40 (jvZ (jvZ (jvZ z))) = S3 at *
    simp (disch := first | omega | decide) only [jaU_eq, jaU_U, nI_add, pk_mul, jaIx_nI, vp_inT, true_and, and_true, ↓jaO0, ↓jaO1, nI_z, nI_z2, nI_z3, nI_z4, nI_z5, nI_lt', nI_le', nI_eq', jaUI_at, jaPt_eq, jaPt_ne, jaUI_o, jaUI_2, jaUL_at, jaUL_o, jaUL_1, jaB_z, jaB_1, ↓jaB_01, Classical.not_not, and_self, true_or, or_true, nI_11, Nat.reduceEqDiff, Nat.reduceAdd, Nat.reduceMul, Nat.add_zero, Nat.zero_add, Nat.mul_zero, not_true_eq_false, not_false_eq_true, false_implies, true_implies, hs3]
    rw [hM.1]
    simp (disch := first | omega | decide) only [jaU_eq, jaU_U, nI_add, pk_mul, jaIx_nI, vp_inT, true_and, and_true, ↓jaO0, ↓jaO1, nI_z, nI_z2, nI_z3, nI_z4, nI_z5, nI_lt', nI_le', nI_eq', jaUI_at, jaPt_eq, jaPt_ne, jaUI_o, jaUI_2, jaUL_at, jaUL_o, jaUL_1, jaB_z, jaB_1, ↓jaB_01, Classical.not_not, and_self, true_or, or_true, nI_11, Nat.reduceEqDiff, Nat.reduceAdd, Nat.reduceMul, Nat.add_zero, Nat.zero_add, Nat.mul_zero, not_true_eq_false, not_false_eq_true, false_implies, true_implies]
    refine ⟨fun q4 => ?_, fun q4 => ?_⟩
    · exact hsame _ hs3 hd3 he3 hF3 _ hz3 (by rw [jaIf1_f (by omega)])
    · rw [jaIf1_t (show jz s 32 < 24 by omega)] at h
      exact sp_M_putsTrans (by omega) hs3 hd3 he3 hW (by omega) (by omega) (jvQ_lt (by omega)) (fun S4 a b c f => h S4 a b c ((f.f 40 (by decide)).trans hz3) (hF3.trans (f.mono (by decide) (by decide))))
noncomputable def jvDs1 (y : jvX × Int32) : jvX × Int32 := (jvT3 (jvDeed y.1 y.2).1, (jvDeed y.1 y.2).2)
noncomputable def jvDs (y : jvX × Int32) : Nat → jvX × Int32 := jaRec (fun _ => jvDs1) y
theorem jvDs_W {x : jvX} {z : Int32} (h : jW3 x) : ∀ n, jz x.1 31 + n < 3000 → jW3 (jvDs (x, z) n).1 ∧ jK3 x (jvDs (x, z) n).1 ∧ jz (jvDs (x, z) n).1.1 31 = jz x.1 31 + n
  | 0, _ => ⟨h, jK3.rfl, rfl⟩
  | n + 1, hn => by
    obtain ⟨a, b, c⟩ := jvDs_W h n (by omega) (z := z)
    obtain ⟨a1, b1, c1⟩ := jvDeed_W a (z := (jvDs (x, z) n).2)
    obtain ⟨a2, b2, c2⟩ := jvT3_W a1 (by omega)
    refine ⟨a2, (b.trans b1).trans b2, ?_⟩
    show jz (jvT3 (jvDeed (jvDs (x, z) n).1 (jvDs (x, z) n).2).1).1 31 = _
    omega
set_option maxHeartbeats 1000000 in
theorem sp_M_draws {D : Nat} (hD : 8 ≤ D) {kk : Int32 → jaT → Prop} {σ : jaT} {S : jaS} {x : jvX} {z : Int32} (hs : S.1 72 0 = x.1) (hd : S.1 75 0 = x.2.1) (he : S.1 76 0 = x.2.2) (hW : jW3 x) {n : Nat} (hn : n ≤ 60) (ht : jz x.1 31 ≤ 1000)
    (h : ∀ S', S'.1 72 0 = (jvDs (x, z) (min n (1000 - jz x.1 31))).1.1 → S'.1 75 0 = (jvDs (x, z) (min n (1000 - jz x.1 31))).1.2.1 → S'.1 76 0 = (jvDs (x, z) (min n (1000 - jz x.1 31))).1.2.2 → jaFr [72, 75, 76, 80, 82] [29, 40] S S' → kk (nI (min n (1000 - jz x.1 31))) (jaU σ 20 S')) : jaDe D jy_M_draws [jaMo, .inl (nI n), .inl z] (jaU σ 20 S) (jaKi kk) := by
  obtain ⟨D, rfl, hD⟩ := jaSuc hD
  apply js_M_draws
  simp (disch := first | omega | decide) only [jaU_eq, jaU_U, nI_add, pk_mul, jaIx_nI, vp_inT, true_and, and_true, ↓jaO0, ↓jaO1, nI_z, nI_z2, nI_z3, nI_z4, nI_z5, nI_lt', nI_le', nI_eq', jaUI_at, jaPt_eq, jaPt_ne, jaUI_o, jaUI_2, jaUL_at, jaUL_o, jaUL_1, jaB_z, jaB_1, ↓jaB_01, Classical.not_not, and_self, true_or, or_true, nI_11, Nat.reduceEqDiff, Nat.reduceAdd, Nat.reduceMul, Nat.add_zero, Nat.zero_add, Nat.mul_zero, not_true_eq_false, not_false_eq_true, false_implies, true_implies]
  refine jaFor (C := fun c => ∀ S', S'.1 72 0 = (jvDs (x, z) c).1.1 → S'.1 75 0 = (jvDs (x, z) c).1.2.1 → S'.1 76 0 = (jvDs (x, z) c).1.2.2 → S'.1 70 0 40 = (jvDs (x, z) c).2 → jaFr [72, 75, 76, 80, 82] [29, 40] S S' → jc_M_draws_1 D kk (nI n) z (nI c) (jaU σ 20 S')) (N := min n (1000 - jz x.1 31)) ?_ (fun c hc ih => ?_) (jaUI S 70 0 40 z) ?_ ?_ ?_ ?_ ?_
  · intro S' a b c g f
    obtain ⟨w1, w2, w3⟩ := jvDs_W hW (z := z) (min n (1000 - jz x.1 31)) (by omega)
    have w6 := w1.t
    apply jb_M_draws_1
    simp (disch := first | omega | decide) only [jaU_eq, jaU_U, nI_add, pk_mul, jaIx_nI, vp_inT, true_and, and_true, ↓jaO0, ↓jaO1, nI_z, nI_z2, nI_z3, nI_z4, nI_z5, nI_lt', nI_le', nI_eq', jaUI_at, jaPt_eq, jaPt_ne, jaUI_o, jaUI_2, jaUL_at, jaUL_o, jaUL_1, jaB_z, jaB_1, ↓jaB_01, Classical.not_not, and_self, true_or, or_true, nI_11, Nat.reduceEqDiff, Nat.reduceAdd, Nat.reduceMul, Nat.add_zero, Nat.zero_add, Nat.mul_zero, not_true_eq_false, not_false_eq_true, false_implies, true_implies, a]
    rw [w6]
    simp (disch := first | omega | decide) only [jaU_eq, jaU_U, nI_add, pk_mul, jaIx_nI, vp_inT, true_and, and_true, ↓jaO0, ↓jaO1, nI_z, nI_z2, nI_z3, nI_z4, nI_z5, nI_lt', nI_le', nI_eq', jaUI_at, jaPt_eq, jaPt_ne, jaUI_o, jaUI_2, jaUL_at, jaUL_o, jaUL_1, jaB_z, jaB_1, ↓jaB_01, Classical.not_not, and_self, true_or, or_true, nI_11, Nat.reduceEqDiff, Nat.reduceAdd, Nat.reduceMul, Nat.add_zero, Nat.zero_add, Nat.mul_zero, not_true_eq_false, not_false_eq_true, false_implies, true_implies]
    refine ⟨fun _ => h S' a b c f, fun q => ⟨fun _ => h S' a b c f, fun q2 => absurd q2 (by omega)⟩⟩
  · intro S' a b cc g f
    obtain ⟨w1, w2, w3⟩ := jvDs_W hW (z := z) c (by omega)
    have w6 := w1.t
    have hst : jvDs (x, z) (c + 1) = jvDs1 (jvDs (x, z) c) := rfl
    rw [hst] at ih
    generalize jvDs (x, z) c = y at *
    obtain ⟨y1, y2⟩ := y
    simp only [] at a b cc g w1 w2 w3 w6
    obtain ⟨v1, v2, v3⟩ := jvDeed_W w1 (z := y2)
    unfold jvDs1 at ih
    simp only [] at ih
    apply jb_M_draws_1
    simp (disch := first | omega | decide) only [jaU_eq, jaU_U, nI_add, pk_mul, jaIx_nI, vp_inT, true_and, and_true, ↓jaO0, ↓jaO1, nI_z, nI_z2, nI_z3, nI_z4, nI_z5, nI_lt', nI_le', nI_eq', jaUI_at, jaPt_eq, jaPt_ne, jaUI_o, jaUI_2, jaUL_at, jaUL_o, jaUL_1, jaB_z, jaB_1, ↓jaB_01, Classical.not_not, and_self, true_or, or_true, nI_11, Nat.reduceEqDiff, Nat.reduceAdd, Nat.reduceMul, Nat.add_zero, Nat.zero_add, Nat.mul_zero, not_true_eq_false, not_false_eq_true, false_implies, true_implies, a]
    rw [w6]
    simp (disch := first | omega | decide) only [jaU_eq, jaU_U, nI_add, pk_mul, jaIx_nI, vp_inT, true_and, and_true, ↓jaO0, ↓jaO1, nI_z, nI_z2, nI_z3, nI_z4, nI_z5, nI_lt', nI_le', nI_eq', jaUI_at, jaPt_eq, jaPt_ne, jaUI_o, jaUI_2, jaUL_at, jaUL_o, jaUL_1, jaB_z, jaB_1, ↓jaB_01, Classical.not_not, and_self, true_or, or_true, nI_11, Nat.reduceEqDiff, Nat.reduceAdd, Nat.reduceMul, Nat.add_zero, Nat.zero_add, Nat.mul_zero, not_true_eq_false, not_false_eq_true, false_implies, true_implies]
    refine ⟨fun q => absurd q (by omega), fun _ => ⟨fun q => absurd q (by omega), fun _ => ?_⟩⟩
    refine sp_M_drawDeed (x := y1) (by omega) a b cc g w1 (fun S2 a2 b2 c2 g2 f2 => ?_)
    refine sp_M_tick (by omega) a2 b2 c2 v1 (fun S3 a3 b3 f3 => ih S3 a3 ((congrFun (f3.s 75 (by decide) (by decide)) 0).trans b2) b3 ((f3.f 40 (by decide)).trans g2) ((f.trans (f2.mono (by decide) (by decide))).trans (f3.mono (by decide) (by decide))))
  · simp (disch := first | omega | decide) only [jaU_eq, jaU_U, nI_add, pk_mul, jaIx_nI, vp_inT, true_and, and_true, ↓jaO0, ↓jaO1, nI_z, nI_z2, nI_z3, nI_z4, nI_z5, nI_lt', nI_le', nI_eq', jaUI_at, jaPt_eq, jaPt_ne, jaUI_o, jaUI_2, jaUL_at, jaUL_o, jaUL_1, jaB_z, jaB_1, ↓jaB_01, Classical.not_not, and_self, true_or, or_true, nI_11, Nat.reduceEqDiff, Nat.reduceAdd, Nat.reduceMul, Nat.add_zero, Nat.zero_add, Nat.mul_zero, not_true_eq_false, not_false_eq_true, false_implies, true_implies, hs]
    rfl
  · simp (disch := first | omega | decide) only [jaU_eq, jaU_U, nI_add, pk_mul, jaIx_nI, vp_inT, true_and, and_true, ↓jaO0, ↓jaO1, nI_z, nI_z2, nI_z3, nI_z4, nI_z5, nI_lt', nI_le', nI_eq', jaUI_at, jaPt_eq, jaPt_ne, jaUI_o, jaUI_2, jaUL_at, jaUL_o, jaUL_1, jaB_z, jaB_1, ↓jaB_01, Classical.not_not, and_self, true_or, or_true, nI_11, Nat.reduceEqDiff, Nat.reduceAdd, Nat.reduceMul, Nat.add_zero, Nat.zero_add, Nat.mul_zero, not_true_eq_false, not_false_eq_true, false_implies, true_implies, hd]
    rfl
  · simp (disch := first | omega | decide) only [jaU_eq, jaU_U, nI_add, pk_mul, jaIx_nI, vp_inT, true_and, and_true, ↓jaO0, ↓jaO1, nI_z, nI_z2, nI_z3, nI_z4, nI_z5, nI_lt', nI_le', nI_eq', jaUI_at, jaPt_eq, jaPt_ne, jaUI_o, jaUI_2, jaUL_at, jaUL_o, jaUL_1, jaB_z, jaB_1, ↓jaB_01, Classical.not_not, and_self, true_or, or_true, nI_11, Nat.reduceEqDiff, Nat.reduceAdd, Nat.reduceMul, Nat.add_zero, Nat.zero_add, Nat.mul_zero, not_true_eq_false, not_false_eq_true, false_implies, true_implies, he]
    rfl
  · simp (disch := first | omega | decide) only [jaU_eq, jaU_U, nI_add, pk_mul, jaIx_nI, vp_inT, true_and, and_true, ↓jaO0, ↓jaO1, nI_z, nI_z2, nI_z3, nI_z4, nI_z5, nI_lt', nI_le', nI_eq', jaUI_at, jaPt_eq, jaPt_ne, jaUI_o, jaUI_2, jaUL_at, jaUL_o, jaUL_1, jaB_z, jaB_1, ↓jaB_01, Classical.not_not, and_self, true_or, or_true, nI_11, Nat.reduceEqDiff, Nat.reduceAdd, Nat.reduceMul, Nat.add_zero, Nat.zero_add, Nat.mul_zero, not_true_eq_false, not_false_eq_true, false_implies, true_implies]
    rfl
  · (repeat' first | assumption | exact jaFr.rfl | refine jaFr.ui ?_ (by decide) (by decide) | refine jaFr.uf ?_ (by decide) | exact jaFr.mono (by assumption) (by decide) (by decide))
/-! a line lived -/
theorem sp_M_does_0 {D : Nat} (hD : 5 ≤ D) {kk : Int32 → jaT → Prop} {σ : jaT} {S : jaS} {s d e : jvA} (hs : S.1 72 0 = s) (hd : S.1 75 0 = d) (he : S.1 76 0 = e) (hW : jW s d e) {x n : Nat} (hx : x < 3) (hn : n < 24)
    (h9 : ¬ n < jz s 32 → kk (nI 9) (jaU σ 20 S)) (h1 : n < jz s 32 → jz s 32 = 24 → kk (nI 1) (jaU σ 20 S))
    (h : n < jz s 32 → jz s 32 < 24 → ∀ S', S'.1 72 0 = (jvPuts s d e (nI x) n).1 → S'.1 75 0 = (jvPuts s d e (nI x) n).2.1 → S'.1 76 0 = (jvPuts s d e (nI x) n).2.2 → jaFr [72, 75, 76] [] S S' → kk (nI 0) (jaU σ 20 S')) : jaDe D jy_M_does [jaMo, .inl (nI 0), .inl (nI x), .inl (nI n)] (jaU σ 20 S) (jaKi kk) := by
  obtain ⟨D, rfl, hD⟩ := jaSuc hD
  have hM := hW.o.many
  apply js_M_does
  refine ⟨fun q => absurd q (by decide), fun _ => ?_, fun q => absurd q (by decide), fun q => absurd q (by decide), trivial⟩
  simp (disch := first | omega | decide) only [jaU_eq, jaU_U, nI_add, pk_mul, jaIx_nI, vp_inT, true_and, and_true, ↓jaO0, ↓jaO1, nI_z, nI_z2, nI_z3, nI_z4, nI_z5, nI_lt', nI_le', nI_eq', jaUI_at, jaPt_eq, jaPt_ne, jaUI_o, jaUI_2, jaUL_at, jaUL_o, jaUL_1, jaB_z, jaB_1, ↓jaB_01, Classical.not_not, and_self, true_or, or_true, nI_11, Nat.reduceEqDiff, Nat.reduceAdd, Nat.reduceMul, Nat.add_zero, Nat.zero_add, Nat.mul_zero, not_true_eq_false, not_false_eq_true, false_implies, true_implies, hs]
  rw [hM.1]
  simp (disch := first | omega | decide) only [jaU_eq, jaU_U, nI_add, pk_mul, jaIx_nI, vp_inT, true_and, and_true, ↓jaO0, ↓jaO1, nI_z, nI_z2, nI_z3, nI_z4, nI_z5, nI_lt', nI_le', nI_eq', jaUI_at, jaPt_eq, jaPt_ne, jaUI_o, jaUI_2, jaUL_at, jaUL_o, jaUL_1, jaB_z, jaB_1, ↓jaB_01, Classical.not_not, and_self, true_or, or_true, nI_11, Nat.reduceEqDiff, Nat.reduceAdd, Nat.reduceMul, Nat.add_zero, Nat.zero_add, Nat.mul_zero, not_true_eq_false, not_false_eq_true, false_implies, true_implies]
  refine ⟨fun q1 => ⟨fun q2 => ?_, fun q2 => ?_⟩, fun q1 => ?_⟩
  · exact sp_M_putsTrans (by omega) hs hd he hW (by omega) hx q1 (fun S' a b c f => h q1 (by omega) S' a b c f)
  · exact h1 q1 q2
  · exact h9 q1
theorem sp_M_does_1 {D : Nat} (hD : 4 ≤ D) {kk : Int32 → jaT → Prop} {σ : jaT} {S : jaS} {s : jvA} (hs : S.1 72 0 = s) (hw : jWw s) (h36 : s 36 = nI 0 ∨ s 36 = nI 1) {x n : Int32} (h11 : s 36 = nI 1 → kk (nI 11) (jaU σ 20 S)) (h : s 36 = nI 0 → ∀ S', S'.1 72 0 = jvCh s → jaFr [72] [] S S' → kk (nI 0) (jaU σ 20 S')) : jaDe D jy_M_does [jaMo, .inl (nI 1), .inl x, .inl n] (jaU σ 20 S) (jaKi kk) := by
  obtain ⟨D, rfl, hD⟩ := jaSuc hD
  apply js_M_does
  refine ⟨fun q => absurd q (by decide), fun q => absurd q (by decide), fun _ => ?_, fun q => absurd q (by decide), trivial⟩
  simp (disch := first | omega | decide) only [jaU_eq, jaU_U, nI_add, pk_mul, jaIx_nI, vp_inT, true_and, and_true, ↓jaO0, ↓jaO1, nI_z, nI_z2, nI_z3, nI_z4, nI_z5, nI_lt', nI_le', nI_eq', jaUI_at, jaPt_eq, jaPt_ne, jaUI_o, jaUI_2, jaUL_at, jaUL_o, jaUL_1, jaB_z, jaB_1, ↓jaB_01, Classical.not_not, and_self, true_or, or_true, nI_11, Nat.reduceEqDiff, Nat.reduceAdd, Nat.reduceMul, Nat.add_zero, Nat.zero_add, Nat.mul_zero, not_true_eq_false, not_false_eq_true, false_implies, true_implies, hs]
  rcases h36 with q | q
  · rw [q]
    simp (disch := first | omega | decide) only [jaU_eq, jaU_U, nI_add, pk_mul, jaIx_nI, vp_inT, true_and, and_true, ↓jaO0, ↓jaO1, nI_z, nI_z2, nI_z3, nI_z4, nI_z5, nI_lt', nI_le', nI_eq', jaUI_at, jaPt_eq, jaPt_ne, jaUI_o, jaUI_2, jaUL_at, jaUL_o, jaUL_1, jaB_z, jaB_1, ↓jaB_01, Classical.not_not, and_self, true_or, or_true, nI_11, Nat.reduceEqDiff, Nat.reduceAdd, Nat.reduceMul, Nat.add_zero, Nat.zero_add, Nat.mul_zero, not_true_eq_false, not_false_eq_true, false_implies, true_implies]
    exact sp_M_checks (by omega) hs hw (fun S' a f => h q S' a f)
  · rw [q]
    simp (disch := first | omega | decide) only [jaU_eq, jaU_U, nI_add, pk_mul, jaIx_nI, vp_inT, true_and, and_true, ↓jaO0, ↓jaO1, nI_z, nI_z2, nI_z3, nI_z4, nI_z5, nI_lt', nI_le', nI_eq', jaUI_at, jaPt_eq, jaPt_ne, jaUI_o, jaUI_2, jaUL_at, jaUL_o, jaUL_1, jaB_z, jaB_1, ↓jaB_01, Classical.not_not, and_self, true_or, or_true, nI_11, Nat.reduceEqDiff, Nat.reduceAdd, Nat.reduceMul, Nat.add_zero, Nat.zero_add, Nat.mul_zero, not_true_eq_false, not_false_eq_true, false_implies, true_implies]
    exact h11 q
theorem sp_M_does_2 {D : Nat} (hD : 3 ≤ D) {kk : Int32 → jaT → Prop} {σ : jaT} {S : jaS} {s d e : jvA} (hs : S.1 72 0 = s) (hW : jW s d e) {c : Nat} {n : Int32} (hc : c < 3) (h21 : jz s 34 = 0 → kk (nI 21) (jaU σ 20 S)) (h : 0 < jz s 34 → ∀ S', S'.1 72 0 = jvCr s c → jaFr [72] [] S S' → kk (nI 0) (jaU σ 20 S')) : jaDe D jy_M_does [jaMo, .inl (nI 2), .inl (nI c), .inl n] (jaU σ 20 S) (jaKi kk) := by
  obtain ⟨D, rfl, hD⟩ := jaSuc hD
  have hO := hW.o.ord
  apply js_M_does
  refine ⟨fun q => absurd q (by decide), fun q => absurd q (by decide), fun q => absurd q (by decide), fun _ => ?_, trivial⟩
  simp (disch := first | omega | decide) only [jaU_eq, jaU_U, nI_add, pk_mul, jaIx_nI, vp_inT, true_and, and_true, ↓jaO0, ↓jaO1, nI_z, nI_z2, nI_z3, nI_z4, nI_z5, nI_lt', nI_le', nI_eq', jaUI_at, jaPt_eq, jaPt_ne, jaUI_o, jaUI_2, jaUL_at, jaUL_o, jaUL_1, jaB_z, jaB_1, ↓jaB_01, Classical.not_not, and_self, true_or, or_true, nI_11, Nat.reduceEqDiff, Nat.reduceAdd, Nat.reduceMul, Nat.add_zero, Nat.zero_add, Nat.mul_zero, not_true_eq_false, not_false_eq_true, false_implies, true_implies, hs]
  rw [hO.1]
  simp (disch := first | omega | decide) only [jaU_eq, jaU_U, nI_add, pk_mul, jaIx_nI, vp_inT, true_and, and_true, ↓jaO0, ↓jaO1, nI_z, nI_z2, nI_z3, nI_z4, nI_z5, nI_lt', nI_le', nI_eq', jaUI_at, jaPt_eq, jaPt_ne, jaUI_o, jaUI_2, jaUL_at, jaUL_o, jaUL_1, jaB_z, jaB_1, ↓jaB_01, Classical.not_not, and_self, true_or, or_true, nI_11, Nat.reduceEqDiff, Nat.reduceAdd, Nat.reduceMul, Nat.add_zero, Nat.zero_add, Nat.mul_zero, not_true_eq_false, not_false_eq_true, false_implies, true_implies]
  refine ⟨fun q => ?_, fun q => ?_⟩
  · exact sp_M_crashes (by omega) hs hc (fun S' a f => h (by omega) S' a f)
  · exact h21 q
theorem sp_M_does_3 {D : Nat} (hD : 9 ≤ D) {kk : Int32 → jaT → Prop} {σ : jaT} {S : jaS} {s d e : jvA} (hs : S.1 72 0 = s) (hd : S.1 75 0 = d) (he : S.1 76 0 = e) (hW : jW s d e) {k : Nat} {n : Int32} (hk : k ≤ 60) (ht : jz s 31 ≤ 1000) (h31 : 1000 < jz s 31 + k → kk (nI 31) (jaU σ 20 S))
    (h : jz s 31 + k ≤ 1000 → ∀ S', S'.1 72 0 = (jvTicks d (s, e) k).1 → S'.1 76 0 = (jvTicks d (s, e) k).2 → jaFr [72, 76, 80, 82] [29] S S' → kk (nI 0) (jaU σ 20 S')) : jaDe D jy_M_does [jaMo, .inl (nI 3), .inl (nI k), .inl n] (jaU σ 20 S) (jaKi kk) := by
  obtain ⟨D, rfl, hD⟩ := jaSuc hD
  have hT := hW.t
  apply js_M_does
  refine ⟨fun _ => ?_, fun q => absurd q (by decide), fun q => absurd q (by decide), fun q => absurd q (by decide), trivial⟩
  simp (disch := first | omega | decide) only [jaU_eq, jaU_U, nI_add, pk_mul, jaIx_nI, vp_inT, true_and, and_true, ↓jaO0, ↓jaO1, nI_z, nI_z2, nI_z3, nI_z4, nI_z5, nI_lt', nI_le', nI_eq', jaUI_at, jaPt_eq, jaPt_ne, jaUI_o, jaUI_2, jaUL_at, jaUL_o, jaUL_1, jaB_z, jaB_1, ↓jaB_01, Classical.not_not, and_self, true_or, or_true, nI_11, Nat.reduceEqDiff, Nat.reduceAdd, Nat.reduceMul, Nat.add_zero, Nat.zero_add, Nat.mul_zero, not_true_eq_false, not_false_eq_true, false_implies, true_implies, hs]
  rw [hT]
  simp (disch := first | omega | decide) only [jaU_eq, jaU_U, nI_add, pk_mul, jaIx_nI, vp_inT, true_and, and_true, ↓jaO0, ↓jaO1, nI_z, nI_z2, nI_z3, nI_z4, nI_z5, nI_lt', nI_le', nI_eq', jaUI_at, jaPt_eq, jaPt_ne, jaUI_o, jaUI_2, jaUL_at, jaUL_o, jaUL_1, jaB_z, jaB_1, ↓jaB_01, Classical.not_not, and_self, true_or, or_true, nI_11, Nat.reduceEqDiff, Nat.reduceAdd, Nat.reduceMul, Nat.add_zero, Nat.zero_add, Nat.mul_zero, not_true_eq_false, not_false_eq_true, false_implies, true_implies]
  refine ⟨fun q => ?_, fun q => ?_⟩
  · refine sp_M_goesOn (by omega) hs hd he hW hk ht ?_
    rw [show min k (1000 - jz s 31) = k by omega]
    intro S' a b f
    (try simp (disch := first | omega | decide) only [jaU_eq, jaU_U, nI_add, pk_mul, jaIx_nI, vp_inT, true_and, and_true, ↓jaO0, ↓jaO1, nI_z, nI_z2, nI_z3, nI_z4, nI_z5, nI_lt', nI_le', nI_eq', jaUI_at, jaPt_eq, jaPt_ne, jaUI_o, jaUI_2, jaUL_at, jaUL_o, jaUL_1, jaB_z, jaB_1, ↓jaB_01, Classical.not_not, and_self, true_or, or_true, nI_11, Nat.reduceEqDiff, Nat.reduceAdd, Nat.reduceMul, Nat.add_zero, Nat.zero_add, Nat.mul_zero, not_true_eq_false, not_false_eq_true, false_implies, true_implies])
    exact h q S' a b f
  · exact h31 (by omega)
end
