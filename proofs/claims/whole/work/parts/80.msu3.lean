section
/-! what lies within; the reference: submit -/
theorem jxOf {x : Int32} (h : ¬ x < 0) : ∃ q, q < 2147483648 ∧ x = nI q := by
  rw [Int32.lt_iff_toInt_lt] at h
  have h0 : (0 : Int32).toInt = 0 := rfl
  have h1 := Int32.toInt_lt x
  refine ⟨x.toInt.toNat, by omega, Int32.toInt_inj.mp ?_⟩
  rw [nI_toInt (by omega)]
  omega
theorem jxInC {N : Nat} (hN : N < 1000000) {x : Int32} : (¬ x < 0 ∧ ¬ nI N ≤ x) ↔ ∃ q, q < N ∧ x = nI q := by
  constructor
  · rintro ⟨a, b⟩
    obtain ⟨q, h1, rfl⟩ := jxOf a
    rw [nI_le' (by omega) h1] at b
    exact ⟨q, by omega, rfl⟩
  · rintro ⟨q, h1, rfl⟩
    rw [nI_le' (by omega) (by omega), nI_z3 (by omega)]
    exact ⟨fun z => z, by omega⟩
theorem jxIn {N : Nat} (hN : N < 1000000) {x : Int32} : (¬ x < nI 0 ∧ ¬ nI N - nI 1 < x) ↔ ∃ q, q < N ∧ x = nI q := by
  constructor
  · rintro ⟨a, b⟩
    obtain ⟨q, h1, rfl⟩ := jxOf a
    refine ⟨q, ?_, rfl⟩
    rcases Nat.eq_zero_or_pos N with z | z
    · rw [z] at b
      exact absurd (show nI 0 - nI 1 < nI q by
        rw [Int32.lt_iff_toInt_lt, nI_toInt h1, show (nI 0 - nI 1).toInt = -1 by decide]
        omega) b
    · rw [nI_sub z, nI_lt' (by omega) h1] at b
      omega
  · rintro ⟨q, h1, rfl⟩
    rw [nI_sub (by omega), nI_lt' (by omega) (by omega), nI_lt' (by omega) (by omega)]
    omega
theorem sp_M_isSite {D : Nat} (hD : 2 ≤ D) {kk : Int32 → jaT → Prop} {σ : jaT} {S : jaS} {s : jvA} {x : Int32} (hs : S.1 72 0 = s) (hj : s 0 = nI (jz s 0)) (hj9 : jz s 0 ≤ 64) (h : kk (jaB (∃ q, q < jz s 0 ∧ x = nI q)) (jaU σ 20 S)) : jaDe D jy_M_isSite [jaMo, .inl x] (jaU σ 20 S) (jaKi kk) := by
  obtain ⟨D, rfl, hD⟩ := jaSuc hD
  apply js_M_isSite
  simp (disch := first | omega | decide) only [jaU_eq, jaU_U, nI_add, pk_mul, jaIx_nI, vp_inT, true_and, and_true, ↓jaO0, ↓jaO1, nI_z, nI_z2, nI_z3, nI_z4, nI_z5, nI_lt', nI_le', nI_eq', jaUI_at, jaPt_eq, jaPt_ne, jaUI_o, jaUI_2, jaUL_at, jaUL_o, jaUL_1, jaB_z, jaB_1, ↓jaB_01, Classical.not_not, and_self, true_or, or_true, nI_11, Nat.reduceEqDiff, Nat.reduceAdd, Nat.reduceMul, Nat.add_zero, Nat.zero_add, Nat.mul_zero, not_true_eq_false, not_false_eq_true, false_implies, true_implies, hs]
  refine sp_M_isIn (by omega) ?_
  rw [hj, jaB_c (jxIn (by omega))]
  exact ⟨of_eq_true jaB_01, h⟩

theorem sp_M_isKey {D : Nat} (hD : 2 ≤ D) {kk : Int32 → jaT → Prop} {σ : jaT} {S : jaS} {s : jvA} {x : Int32} (hs : S.1 72 0 = s) (hj : s 1 = nI (jz s 1)) (hj9 : jz s 1 ≤ 64) (h : kk (jaB (∃ q, q < jz s 1 ∧ x = nI q)) (jaU σ 20 S)) : jaDe D jy_M_isKey [jaMo, .inl x] (jaU σ 20 S) (jaKi kk) := by
  obtain ⟨D, rfl, hD⟩ := jaSuc hD
  apply js_M_isKey
  simp (disch := first | omega | decide) only [jaU_eq, jaU_U, nI_add, pk_mul, jaIx_nI, vp_inT, true_and, and_true, ↓jaO0, ↓jaO1, nI_z, nI_z2, nI_z3, nI_z4, nI_z5, nI_lt', nI_le', nI_eq', jaUI_at, jaPt_eq, jaPt_ne, jaUI_o, jaUI_2, jaUL_at, jaUL_o, jaUL_1, jaB_z, jaB_1, ↓jaB_01, Classical.not_not, and_self, true_or, or_true, nI_11, Nat.reduceEqDiff, Nat.reduceAdd, Nat.reduceMul, Nat.add_zero, Nat.zero_add, Nat.mul_zero, not_true_eq_false, not_false_eq_true, false_implies, true_implies, hs]
  refine sp_M_isIn (by omega) ?_
  rw [hj, jaB_c (jxIn (by omega))]
  exact ⟨of_eq_true jaB_01, h⟩

theorem sp_M_isCopy {D : Nat} (hD : 2 ≤ D) {kk : Int32 → jaT → Prop} {σ : jaT} {S : jaS} {s : jvA} {x : Int32} (hs : S.1 72 0 = s) (hj : s 2 = nI (jz s 2)) (hj9 : jz s 2 ≤ 64) (h : kk (jaB (∃ q, q < jz s 2 ∧ x = nI q)) (jaU σ 20 S)) : jaDe D jy_M_isCopy [jaMo, .inl x] (jaU σ 20 S) (jaKi kk) := by
  obtain ⟨D, rfl, hD⟩ := jaSuc hD
  apply js_M_isCopy
  simp (disch := first | omega | decide) only [jaU_eq, jaU_U, nI_add, pk_mul, jaIx_nI, vp_inT, true_and, and_true, ↓jaO0, ↓jaO1, nI_z, nI_z2, nI_z3, nI_z4, nI_z5, nI_lt', nI_le', nI_eq', jaUI_at, jaPt_eq, jaPt_ne, jaUI_o, jaUI_2, jaUL_at, jaUL_o, jaUL_1, jaB_z, jaB_1, ↓jaB_01, Classical.not_not, and_self, true_or, or_true, nI_11, Nat.reduceEqDiff, Nat.reduceAdd, Nat.reduceMul, Nat.add_zero, Nat.zero_add, Nat.mul_zero, not_true_eq_false, not_false_eq_true, false_implies, true_implies, hs]
  refine sp_M_isIn (by omega) ?_
  rw [hj, jaB_c (jxIn (by omega))]
  exact ⟨of_eq_true jaB_01, h⟩

theorem sp_M_isTrans {D : Nat} (hD : 2 ≤ D) {kk : Int32 → jaT → Prop} {σ : jaT} {S : jaS} {s : jvA} {x : Int32} (hs : S.1 72 0 = s) (hj : s 32 = nI (jz s 32)) (hj9 : jz s 32 ≤ 64) (h : kk (jaB (∃ q, q < jz s 32 ∧ x = nI q)) (jaU σ 20 S)) : jaDe D jy_M_isTrans [jaMo, .inl x] (jaU σ 20 S) (jaKi kk) := by
  obtain ⟨D, rfl, hD⟩ := jaSuc hD
  apply js_M_isTrans
  simp (disch := first | omega | decide) only [jaU_eq, jaU_U, nI_add, pk_mul, jaIx_nI, vp_inT, true_and, and_true, ↓jaO0, ↓jaO1, nI_z, nI_z2, nI_z3, nI_z4, nI_z5, nI_lt', nI_le', nI_eq', jaUI_at, jaPt_eq, jaPt_ne, jaUI_o, jaUI_2, jaUL_at, jaUL_o, jaUL_1, jaB_z, jaB_1, ↓jaB_01, Classical.not_not, and_self, true_or, or_true, nI_11, Nat.reduceEqDiff, Nat.reduceAdd, Nat.reduceMul, Nat.add_zero, Nat.zero_add, Nat.mul_zero, not_true_eq_false, not_false_eq_true, false_implies, true_implies, hs]
  refine sp_M_isIn (by omega) ?_
  rw [hj, jaB_c (jxIn (by omega))]
  exact ⟨of_eq_true jaB_01, h⟩

theorem sp_M_isEntry {D : Nat} (hD : 2 ≤ D) {kk : Int32 → jaT → Prop} {σ : jaT} {S : jaS} {s : jvA} {x : Int32} (hs : S.1 72 0 = s) (hj : s 34 = nI (jz s 34)) (hj9 : jz s 34 ≤ 64) (h : kk (jaB (∃ q, q < jz s 34 ∧ x = nI q)) (jaU σ 20 S)) : jaDe D jy_M_isEntry [jaMo, .inl x] (jaU σ 20 S) (jaKi kk) := by
  obtain ⟨D, rfl, hD⟩ := jaSuc hD
  apply js_M_isEntry
  simp (disch := first | omega | decide) only [jaU_eq, jaU_U, nI_add, pk_mul, jaIx_nI, vp_inT, true_and, and_true, ↓jaO0, ↓jaO1, nI_z, nI_z2, nI_z3, nI_z4, nI_z5, nI_lt', nI_le', nI_eq', jaUI_at, jaPt_eq, jaPt_ne, jaUI_o, jaUI_2, jaUL_at, jaUL_o, jaUL_1, jaB_z, jaB_1, ↓jaB_01, Classical.not_not, and_self, true_or, or_true, nI_11, Nat.reduceEqDiff, Nat.reduceAdd, Nat.reduceMul, Nat.add_zero, Nat.zero_add, Nat.mul_zero, not_true_eq_false, not_false_eq_true, false_implies, true_implies, hs]
  refine sp_M_isIn (by omega) ?_
  rw [hj, jaB_c (jxIn (by omega))]
  exact ⟨of_eq_true jaB_01, h⟩
set_option maxHeartbeats 4000000 in
theorem sp_M_submit {D : Nat} (hD : 9 ≤ D) {kk : Int32 → jaT → Prop} {σ : jaT} {S : jaS} {X : jtX} {nm : Nat → Nat} {x : jvX} {uu : jvA} {m : Nat} {x1 : Int32} (hn2 : S.1 70 0 2 = nI X.2.1) (hl : X.2.1 ≤ 940) (hlim : X.2.2 = 200) (hX : ∀ q, X.1 q < 256) (ht : ∀ j, j < 940 → S.1 71 0 j &&& nI 255 = nI (X.1 j)) (hv : jmV S)
    (hnm : ∀ r, r < jz x.1 1 → S.2 78 0 (3 + r) = Int64.ofNat (nm (3 + r)) ∧ nm (3 + r) < 9223372036854775808) (hs : S.1 72 0 = x.1) (hd : S.1 75 0 = x.2.1) (he : S.1 76 0 = x.2.2) (hW : jW3 x) (hm : S.1 70 0 33 = nI m) (hm8 : m ≤ 8) (hu : S.1 83 0 = uu)
    (h1 : ((¬ ∃ q, q < jz x.1 0 ∧ x1 = nI q) ∨ jz x.1 32 = 24) → ∀ S', jaFr [] [0] S S' → kk (-1000) (jaU σ 20 S'))
    (h2 : (∃ q, q < jz x.1 0 ∧ x1 = nI q) → jz x.1 32 < 24 → ∀ c p, jsAll X nm (jz x.1 1) 7 0 (S.1 77 0, 0) 0 = .inl (c, p) → ∀ S', jmFl S' X c p → S'.1 70 0 2 = nI 0 → jaFr [77] (0 :: 2 :: 3 :: 5 :: jsG) S S' → kk ((-2) - nI (jtAt X p)) (jaU σ 20 S'))
    (h3 : ∀ q, q < jz x.1 0 → x1 = nI q → jz x.1 32 < 24 → ∀ u n, jsAll X nm (jz x.1 1) 7 0 (S.1 77 0, 0) 0 = .inr (u, n) → jWn (jz x.1 1) (jvCp x.2.1 (133 * jz x.1 32) (jsP u x1 n) 0 133) (jz x.1 32) → ∀ S', S'.1 72 0 = (jvSb x (jsP u x1 n)).1 → S'.1 75 0 = (jvSb x (jsP u x1 n)).2.1 → S'.1 76 0 = (jvSb x (jsP u x1 n)).2.2 → S'.1 83 0 = jvSt x.1 uu m → S'.1 70 0 33 = nI (jvStM m) → S'.1 70 0 2 = nI 0 → S'.1 70 0 18 = nI 0 → jaFr [72, 75, 76, 77, 83] (0 :: 2 :: 3 :: 5 :: 33 :: jsG) S S' → kk (nI (jz x.1 32)) (jaU σ 20 S')) :
    jaDe D jy_M_submit [jaMo, .inl x1] (jaU σ 20 S) (jaKi kk) := by
  obtain ⟨s, d, e⟩ := x
  simp only [] at hnm hs hd he h1 h2 h3
  have hW : jW s d e := hW
  have hK := hW.w.2.1.2
  have h32 := hW.o.many
  obtain ⟨D, rfl, hD⟩ := jaSuc hD
  apply js_M_submit
  simp only [jaU_eq, jaU_U]
  have f0 : jaFr [] [0] S (jaUI S 70 0 0 (nI 0)) := jaFr.rfl.uf (by decide)
  refine sp_M_isSite (s := s) (by omega) (by simp (disch := first | omega | decide) only [jaU_eq, jaU_U, nI_add, pk_mul, jaIx_nI, vp_inT, true_and, and_true, ↓jaO0, ↓jaO1, nI_z, nI_z2, nI_z3, nI_z4, nI_z5, nI_lt', nI_le', nI_eq', jaUI_at, jaPt_eq, jaPt_ne, jaUI_o, jaUI_2, jaUL_at, jaUL_o, jaUL_1, jaB_z, jaB_1, ↓jaB_01, Classical.not_not, and_self, true_or, or_true, nI_11, Nat.reduceEqDiff, Nat.reduceAdd, Nat.reduceMul, Nat.add_zero, Nat.zero_add, Nat.mul_zero, not_true_eq_false, not_false_eq_true, false_implies, true_implies, hs]) hW.w.1.1 (by have := hW.w.1.2; omega) ?_
  simp (disch := first | omega | decide) only [jaU_eq, jaU_U, nI_add, pk_mul, jaIx_nI, vp_inT, true_and, and_true, ↓jaO0, ↓jaO1, nI_z, nI_z2, nI_z3, nI_z4, nI_z5, nI_lt', nI_le', nI_eq', jaUI_at, jaPt_eq, jaPt_ne, jaUI_o, jaUI_2, jaUL_at, jaUL_o, jaUL_1, jaB_z, jaB_1, ↓jaB_01, Classical.not_not, and_self, true_or, or_true, nI_11, Nat.reduceEqDiff, Nat.reduceAdd, Nat.reduceMul, Nat.add_zero, Nat.zero_add, Nat.mul_zero, not_true_eq_false, not_false_eq_true, false_implies, true_implies, hs]
  refine ⟨fun q => h1 (Or.inl q) _ f0, fun q => ⟨fun q2 => ?_, fun q2 => ?_⟩⟩
  · have q24 : jz s 32 < 24 := by
      rcases Nat.lt_or_ge (jz s 32) 24 with z | z
      · exact z
      · exact absurd (by rw [h32.1, show jz s 32 = 24 by omega]) q2
    obtain ⟨qs, hqs, hx1⟩ := q
    refine sp_M_taken (n := X.2.1) (by omega) (by simp (disch := first | omega | decide) only [jaU_eq, jaU_U, nI_add, pk_mul, jaIx_nI, vp_inT, true_and, and_true, ↓jaO0, ↓jaO1, nI_z, nI_z2, nI_z3, nI_z4, nI_z5, nI_lt', nI_le', nI_eq', jaUI_at, jaPt_eq, jaPt_ne, jaUI_o, jaUI_2, jaUL_at, jaUL_o, jaUL_1, jaB_z, jaB_1, ↓jaB_01, Classical.not_not, and_self, true_or, or_true, nI_11, Nat.reduceEqDiff, Nat.reduceAdd, Nat.reduceMul, Nat.add_zero, Nat.zero_add, Nat.mul_zero, not_true_eq_false, not_false_eq_true, false_implies, true_implies, hn2]) (fun S1 t3 t2 t4 t5 f1 => ?_)
    simp (disch := first | omega | decide) only [jaU_eq, jaU_U, nI_add, pk_mul, jaIx_nI, vp_inT, true_and, and_true, ↓jaO0, ↓jaO1, nI_z, nI_z2, nI_z3, nI_z4, nI_z5, nI_lt', nI_le', nI_eq', jaUI_at, jaPt_eq, jaPt_ne, jaUI_o, jaUI_2, jaUL_at, jaUL_o, jaUL_1, jaB_z, jaB_1, ↓jaB_01, Classical.not_not, and_self, true_or, or_true, nI_11, Nat.reduceEqDiff, Nat.reduceAdd, Nat.reduceMul, Nat.add_zero, Nat.zero_add, Nat.mul_zero, not_true_eq_false, not_false_eq_true, false_implies, true_implies]
    have f2 : jaFr [] [18, 24] S1 (jaUI (jaUI S1 70 0 18 (nI 0)) 70 0 24 (nI 0)) := (jaFr.rfl.uf (by decide)).uf (by decide)
    have F2 : jaFr [77] (0 :: 2 :: 3 :: 5 :: jsG) S (jaUI (jaUI S1 70 0 18 (nI 0)) 70 0 24 (nI 0)) := (f0.mono (by decide) (by decide)).trans ((f1.mono (by decide) (by decide)).trans (f2.mono (by decide) (by decide)))
    generalize hS2 : jaUI (jaUI S1 70 0 18 (nI 0)) 70 0 24 (nI 0) = S2 at *
    have z18 : S2.1 70 0 18 = nI 0 := by
      rw [← hS2]
      simp (disch := first | omega | decide) only [jaU_eq, jaU_U, nI_add, pk_mul, jaIx_nI, vp_inT, true_and, and_true, ↓jaO0, ↓jaO1, nI_z, nI_z2, nI_z3, nI_z4, nI_z5, nI_lt', nI_le', nI_eq', jaUI_at, jaPt_eq, jaPt_ne, jaUI_o, jaUI_2, jaUL_at, jaUL_o, jaUL_1, jaB_z, jaB_1, ↓jaB_01, Classical.not_not, and_self, true_or, or_true, nI_11, Nat.reduceEqDiff, Nat.reduceAdd, Nat.reduceMul, Nat.add_zero, Nat.zero_add, Nat.mul_zero, not_true_eq_false, not_false_eq_true, false_implies, true_implies]
    have z24 : S2.1 70 0 24 = nI 0 := by
      rw [← hS2]
      simp (disch := first | omega | decide) only [jaU_eq, jaU_U, nI_add, pk_mul, jaIx_nI, vp_inT, true_and, and_true, ↓jaO0, ↓jaO1, nI_z, nI_z2, nI_z3, nI_z4, nI_z5, nI_lt', nI_le', nI_eq', jaUI_at, jaPt_eq, jaPt_ne, jaUI_o, jaUI_2, jaUL_at, jaUL_o, jaUL_1, jaB_z, jaB_1, ↓jaB_01, Classical.not_not, and_self, true_or, or_true, nI_11, Nat.reduceEqDiff, Nat.reduceAdd, Nat.reduceMul, Nat.add_zero, Nat.zero_add, Nat.mul_zero, not_true_eq_false, not_false_eq_true, false_implies, true_implies]
    have T2 : jmT S2 X := ⟨fun j hj => by rw [F2.s 71 (by decide) (by decide)]; exact ht j hj, by rw [f2.f 3 (by decide)]; exact t3, by rw [f2.f 5 (by decide), t5, hlim], by omega, z18⟩
    refine sp_M_next (i := 0) (by omega) T2 hX hl (by rw [f2.f 4 (by decide), t4]; rfl) (Nat.zero_le _) (fun S3 a3 f3 => ?_)
    have F3 : jaFr [77] (0 :: 2 :: 3 :: 5 :: jsG) S S3 := F2.trans (f3.mono (by decide) (by decide))
    have V3 : jmV S3 := jmR.w hv (F3.l 79 (by decide) (by decide))
    have M3 : jsM S3 X nm (jz s 1) (S.1 77 0, 0) 0 := by
      refine ⟨⟨a3, V3⟩, fun r hr => by rw [F3.l 78 (by decide) (by decide)]; exact hnm r hr, ?_, ?_, ?_⟩
      · rw [F3.s 72 (by decide) (by decide), hs]; exact hW.w.2.1.1
      · show S3.1 77 0 = S.1 77 0
        rw [f3.s 77 (by decide) (by decide), f2.s 77 (by decide) (by decide), f1.s 77 (by decide) (by decide), f0.s 77 (by decide) (by decide)]
      · rw [f3.f 24 (by decide)]; exact z24
    have w0 : jsW (jz s 1) (S.1 77 0, 0) := ⟨Nat.zero_le _, fun j hj => absurd (show j < 0 from hj) (by omega)⟩
    have z2 : ∀ S', jaFr [77] jsG S3 S' → S'.1 70 0 2 = nI 0 := fun S' f => by
      rw [f.f 2 (by decide), f3.f 2 (by decide), f2.f 2 (by decide)]; exact t2
    refine sp_M_sub (S := S3) (nm := nm) (X := X) (by omega) hK 7 0 (S.1 77 0, 0) 0 S3 rfl (by omega) M3 w0 jaFr.rfl (fun u n e1 n1 n6 S4 a4 f4 => ?_) (fun c p e1 S4 a4 f4 => h2 ⟨qs, hqs, hx1⟩ q24 c p e1 S4 a4 (z2 S4 f4) (F3.trans (f4.mono (by decide) (by decide))))
    obtain ⟨b77, b24, b18⟩ := a4
    have F4 : jaFr [77] (0 :: 2 :: 3 :: 5 :: jsG) S S4 := F3.trans (f4.mono (by decide) (by decide))
    have hPn := jsP_W (m := jz s 32) (d := d) hX hK e1 (show qs < 3 by have := hW.w.1.2; omega)
    rw [← hx1] at hPn
    have hh := h3 qs hqs hx1 q24 u n e1 hPn
    have z2' := z2 S4 f4
    simp (disch := first | omega | decide) only [jaU_eq, jaU_U, nI_add, pk_mul, jaIx_nI, vp_inT, true_and, and_true, ↓jaO0, ↓jaO1, nI_z, nI_z2, nI_z3, nI_z4, nI_z5, nI_lt', nI_le', nI_eq', jaUI_at, jaPt_eq, jaPt_ne, jaUI_o, jaUI_2, jaUL_at, jaUL_o, jaUL_1, jaB_z, jaB_1, ↓jaB_01, Classical.not_not, and_self, true_or, or_true, nI_11, Nat.reduceEqDiff, Nat.reduceAdd, Nat.reduceMul, Nat.add_zero, Nat.zero_add, Nat.mul_zero, not_true_eq_false, not_false_eq_true, false_implies, true_implies, b24]
    have f5 : jaFr [77] [] S4 (jaUI (jaUI (jaUI S4 77 0 0 x1) 77 0 1 (nI n)) 77 0 2 (nI u.2)) := ((jaFr.rfl.ui (by decide) (by decide)).ui (by decide) (by decide)).ui (by decide) (by decide)
    have P5 : (jaUI (jaUI (jaUI S4 77 0 0 x1) 77 0 1 (nI n)) 77 0 2 (nI u.2)).1 77 0 = jsP u x1 n := by
      rw [jaUI_at, jaUI_at, jaUI_at, b77]
      rfl
    generalize jaUI (jaUI (jaUI S4 77 0 0 x1) 77 0 1 (nI n)) 77 0 2 (nI u.2) = S5 at *
    have F5 : jaFr [77] (0 :: 2 :: 3 :: 5 :: jsG) S S5 := F4.trans (f5.mono (by decide) (by decide))
    have s5 : S5.1 72 0 = s := by rw [F5.s 72 (by decide) (by decide)]; exact hs
    refine sp_M_stores (s := s) (u := uu) (m := m) (by omega) s5 (by rw [F5.s 83 (by decide) (by decide)]; exact hu) (by rw [F5.f 33 (by decide)]; exact hm) hm8 (fun S6 a6 b6 f6 => ?_)
    have F6 : jaFr [72, 75, 76, 77, 83] (0 :: 2 :: 3 :: 5 :: 33 :: jsG) S S6 := (F5.mono (by decide) (by decide)).trans (f6.mono (by decide) (by decide))
    have s6 : S6.1 72 0 = s := by rw [f6.s 72 (by decide) (by decide)]; exact s5
    have d6 : S6.1 75 0 = d := by rw [f6.s 75 (by decide) (by decide), F5.s 75 (by decide) (by decide)]; exact hd
    have e6 : S6.1 76 0 = e := by rw [f6.s 76 (by decide) (by decide), F5.s 76 (by decide) (by decide)]; exact he
    have P6 : S6.1 77 0 = jsP u x1 n := by rw [f6.s 77 (by decide) (by decide)]; exact P5
    have z26 : S6.1 70 0 2 = nI 0 := by rw [f6.f 2 (by decide), f5.f 2 List.not_mem_nil]; exact z2'
    have z186 : S6.1 70 0 18 = nI 0 := by rw [f6.f 18 (by decide), f5.f 18 List.not_mem_nil]; exact b18
    refine jaFor (C := fun k => ∀ S', S'.1 75 0 = jvCp d (133 * jz s 32) (jsP u x1 n) 0 k → jaFr [75] [] S6 S' → jc_M_submit_8 D kk x1 (nI n) (nI k) (jaU σ 20 S')) (N := 133) ?_ (fun k hk ih => ?_) S6 (by rw [jvCp_0, d6]) jaFr.rfl
    · intro S7 a7 f7
      have s7 : S7.1 72 0 = s := by rw [f7.s 72 (by decide) (by decide)]; exact s6
      have q1 : (jaPt s 32 (s 32 + nI 1)) 1 = s 1 := jaPt_ne (by decide)
      have q33 : (jaPt s 32 (s 32 + nI 1)) 33 = s 33 := jaPt_ne (by decide)
      have q35 : (jaPt s 32 (s 32 + nI 1)) 35 = s 35 := jaPt_ne (by decide)
      have qw : jWw (jaPt s 32 (s 32 + nI 1)) := jWw_c (fun j hj => jaPt_ne (by omega)) hW.w
      have w2 := (jvNew_W (d := jvCp d (133 * jz s 32) (jsP u x1 n) 0 133) (jW_d hW (fun j hj => jvCp_out (Or.inl hj))) q24 hPn).2
      apply jb_M_submit_8
      simp (disch := first | omega | decide) only [jaU_eq, jaU_U, nI_add, pk_mul, jaIx_nI, vp_inT, true_and, and_true, ↓jaO0, ↓jaO1, nI_z, nI_z2, nI_z3, nI_z4, nI_z5, nI_lt', nI_le', nI_eq', jaUI_at, jaPt_eq, jaPt_ne, jaUI_o, jaUI_2, jaUL_at, jaUL_o, jaUL_1, jaB_z, jaB_1, ↓jaB_01, Classical.not_not, and_self, true_or, or_true, nI_11, Nat.reduceEqDiff, Nat.reduceAdd, Nat.reduceMul, Nat.add_zero, Nat.zero_add, Nat.mul_zero, not_true_eq_false, not_false_eq_true, false_implies, true_implies, s7]
      rw [h32.1]
      simp (disch := first | omega | decide) only [jaU_eq, jaU_U, nI_add, pk_mul, jaIx_nI, vp_inT, true_and, and_true, ↓jaO0, ↓jaO1, nI_z, nI_z2, nI_z3, nI_z4, nI_z5, nI_lt', nI_le', nI_eq', jaUI_at, jaPt_eq, jaPt_ne, jaUI_o, jaUI_2, jaUL_at, jaUL_o, jaUL_1, jaB_z, jaB_1, ↓jaB_01, Classical.not_not, and_self, true_or, or_true, nI_11, Nat.reduceEqDiff, Nat.reduceAdd, Nat.reduceMul, Nat.add_zero, Nat.zero_add, Nat.mul_zero, not_true_eq_false, not_false_eq_true, false_implies, true_implies, s7, nI_sub, Nat.add_sub_cancel]
      refine ⟨fun _ => ?_, fun q => absurd (by omega) q⟩
      have e32 : jaPt s 32 (nI (jz s 32 + 1)) = jaPt s 32 (s 32 + nI 1) := by
        rw [h32.1]
        simp (disch := first | omega | decide) only [jaU_eq, jaU_U, nI_add, pk_mul, jaIx_nI, vp_inT, true_and, and_true, ↓jaO0, ↓jaO1, nI_z, nI_z2, nI_z3, nI_z4, nI_z5, nI_lt', nI_le', nI_eq', jaUI_at, jaPt_eq, jaPt_ne, jaUI_o, jaUI_2, jaUL_at, jaUL_o, jaUL_1, jaB_z, jaB_1, ↓jaB_01, Classical.not_not, and_self, true_or, or_true, nI_11, Nat.reduceEqDiff, Nat.reduceAdd, Nat.reduceMul, Nat.add_zero, Nat.zero_add, Nat.mul_zero, not_true_eq_false, not_false_eq_true, false_implies, true_implies]
      refine sp_M_comes (s := jaPt s 32 (s 32 + nI 1)) (d := jvCp d (133 * jz s 32) (jsP u x1 n) 0 133) (e := e) (by omega) ?_ ?_ ?_ qw q24 ?_ ?_ ?_ ?_ ?_ (fun S8 a8 b8 f8 => ?_)
      · simp (disch := first | omega | decide) only [jaU_eq, jaU_U, nI_add, pk_mul, jaIx_nI, vp_inT, true_and, and_true, ↓jaO0, ↓jaO1, nI_z, nI_z2, nI_z3, nI_z4, nI_z5, nI_lt', nI_le', nI_eq', jaUI_at, jaPt_eq, jaPt_ne, jaUI_o, jaUI_2, jaUL_at, jaUL_o, jaUL_1, jaB_z, jaB_1, ↓jaB_01, Classical.not_not, and_self, true_or, or_true, nI_11, Nat.reduceEqDiff, Nat.reduceAdd, Nat.reduceMul, Nat.add_zero, Nat.zero_add, Nat.mul_zero, not_true_eq_false, not_false_eq_true, false_implies, true_implies, s7]
        exact e32
      · simp (disch := first | omega | decide) only [jaU_eq, jaU_U, nI_add, pk_mul, jaIx_nI, vp_inT, true_and, and_true, ↓jaO0, ↓jaO1, nI_z, nI_z2, nI_z3, nI_z4, nI_z5, nI_lt', nI_le', nI_eq', jaUI_at, jaPt_eq, jaPt_ne, jaUI_o, jaUI_2, jaUL_at, jaUL_o, jaUL_1, jaB_z, jaB_1, ↓jaB_01, Classical.not_not, and_self, true_or, or_true, nI_11, Nat.reduceEqDiff, Nat.reduceAdd, Nat.reduceMul, Nat.add_zero, Nat.zero_add, Nat.mul_zero, not_true_eq_false, not_false_eq_true, false_implies, true_implies, a7]
      · simp (disch := first | omega | decide) only [jaU_eq, jaU_U, nI_add, pk_mul, jaIx_nI, vp_inT, true_and, and_true, ↓jaO0, ↓jaO1, nI_z, nI_z2, nI_z3, nI_z4, nI_z5, nI_lt', nI_le', nI_eq', jaUI_at, jaPt_eq, jaPt_ne, jaUI_o, jaUI_2, jaUL_at, jaUL_o, jaUL_1, jaB_z, jaB_1, ↓jaB_01, Classical.not_not, and_self, true_or, or_true, nI_11, Nat.reduceEqDiff, Nat.reduceAdd, Nat.reduceMul, Nat.add_zero, Nat.zero_add, Nat.mul_zero, not_true_eq_false, not_false_eq_true, false_implies, true_implies]
        rw [f7.s 76 (by decide) (by decide)]; exact e6
      · rw [jz_c q1]; exact hPn
      · rw [jz_c q33, q33]; exact hW.o.pool.1
      · rw [jz_c q33]; exact w2
      · rw [jz_c q35, q35]; exact hW.o.came.1
      · rw [jz_c q35]; have := hW.o.2.2.2.2.1; omega
      · have hpp : jaFr [72, 75] [] S6 (jaUI S7 72 0 32 (nI (jz s 32 + 1))) := (f7.mono (by decide) (by decide)).ui (by decide) (by decide)
        have v32 : S8.1 72 0 32 = nI (jz s 32 + 1) := by
          rw [a8, jvComeS_ne (by decide) (by decide) (by rw [jz_c q35]; have := hW.o.came.2; omega), jaPt_eq, h32.1, nI_add]
        simp (disch := first | omega | decide) only [jaU_eq, jaU_U, nI_add, pk_mul, jaIx_nI, vp_inT, true_and, and_true, ↓jaO0, ↓jaO1, nI_z, nI_z2, nI_z3, nI_z4, nI_z5, nI_lt', nI_le', nI_eq', jaUI_at, jaPt_eq, jaPt_ne, jaUI_o, jaUI_2, jaUL_at, jaUL_o, jaUL_1, jaB_z, jaB_1, ↓jaB_01, Classical.not_not, and_self, true_or, or_true, nI_11, Nat.reduceEqDiff, Nat.reduceAdd, Nat.reduceMul, Nat.add_zero, Nat.zero_add, Nat.mul_zero, not_true_eq_false, not_false_eq_true, false_implies, true_implies, v32, nI_sub, Nat.add_sub_cancel]
        refine hh S8 a8 ?_ b8 ?_ ?_ ?_ ?_ (F6.trans ((hpp.mono (by decide) (by decide)).trans (f8.mono (by decide) (by decide))))
        · rw [f8.s 75 (by decide) (by decide)]
          simp (disch := first | omega | decide) only [jaU_eq, jaU_U, nI_add, pk_mul, jaIx_nI, vp_inT, true_and, and_true, ↓jaO0, ↓jaO1, nI_z, nI_z2, nI_z3, nI_z4, nI_z5, nI_lt', nI_le', nI_eq', jaUI_at, jaPt_eq, jaPt_ne, jaUI_o, jaUI_2, jaUL_at, jaUL_o, jaUL_1, jaB_z, jaB_1, ↓jaB_01, Classical.not_not, and_self, true_or, or_true, nI_11, Nat.reduceEqDiff, Nat.reduceAdd, Nat.reduceMul, Nat.add_zero, Nat.zero_add, Nat.mul_zero, not_true_eq_false, not_false_eq_true, false_implies, true_implies, a7]
          rfl
        · rw [f8.s 83 (by decide) (by decide), hpp.s 83 (by decide) (by decide)]; exact a6
        · rw [f8.f 33 List.not_mem_nil, hpp.f 33 List.not_mem_nil]; exact b6
        · rw [f8.f 2 List.not_mem_nil, hpp.f 2 List.not_mem_nil]; exact z26
        · rw [f8.f 18 List.not_mem_nil, hpp.f 18 List.not_mem_nil]; exact z186
    · intro S7 a7 f7
      have s7 : S7.1 72 0 = s := by rw [f7.s 72 (by decide) (by decide)]; exact s6
      have p7 : S7.1 77 0 = jsP u x1 n := by rw [f7.s 77 (by decide) (by decide)]; exact P6
      apply jb_M_submit_8
      simp (disch := first | omega | decide) only [jaU_eq, jaU_U, nI_add, pk_mul, jaIx_nI, vp_inT, true_and, and_true, ↓jaO0, ↓jaO1, nI_z, nI_z2, nI_z3, nI_z4, nI_z5, nI_lt', nI_le', nI_eq', jaUI_at, jaPt_eq, jaPt_ne, jaUI_o, jaUI_2, jaUL_at, jaUL_o, jaUL_1, jaB_z, jaB_1, ↓jaB_01, Classical.not_not, and_self, true_or, or_true, nI_11, Nat.reduceEqDiff, Nat.reduceAdd, Nat.reduceMul, Nat.add_zero, Nat.zero_add, Nat.mul_zero, not_true_eq_false, not_false_eq_true, false_implies, true_implies, s7, p7]
      rw [h32.1]
      simp (disch := first | omega | decide) only [jaU_eq, jaU_U, nI_add, pk_mul, jaIx_nI, vp_inT, true_and, and_true, ↓jaO0, ↓jaO1, nI_z, nI_z2, nI_z3, nI_z4, nI_z5, nI_lt', nI_le', nI_eq', jaUI_at, jaPt_eq, jaPt_ne, jaUI_o, jaUI_2, jaUL_at, jaUL_o, jaUL_1, jaB_z, jaB_1, ↓jaB_01, Classical.not_not, and_self, true_or, or_true, nI_11, Nat.reduceEqDiff, Nat.reduceAdd, Nat.reduceMul, Nat.add_zero, Nat.zero_add, Nat.mul_zero, not_true_eq_false, not_false_eq_true, false_implies, true_implies]
      refine ⟨fun q => absurd q (by omega), fun _ => ?_⟩
      refine ih _ ?_ ?_
      · rw [jaUI_at, a7, jvCp_s, Nat.zero_add]
      · exact f7.ui (by decide) (by decide)
  · exact h1 (Or.inr (by
      have := congrArg jaIx q2
      rw [jaIx_nI (by omega)] at this
      exact this)) _ f0
end
