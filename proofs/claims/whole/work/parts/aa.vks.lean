section
/-! value, key, serial: what they answer, and when they throw -/
def jgVal (s : jvA) (x1 x2 v : Int32) : Prop := ∃ c q, c < jz s 2 ∧ q < jz s 1 ∧ x1 = nI c ∧ x2 = nI q ∧ v = s (145 + 10 * c + q)
def jgKey (s : jvA) (x1 x2 v : Int32) : Prop := ∃ q w, q < jz s 1 ∧ w < 4 ∧ x1 = nI q ∧ x2 = nI w ∧ (w = 3 → jaBt (s 39) q) ∧ v = s (jaN 0 [5, 15, 475, 455] w + q)
noncomputable def jgSr (s d e : jvA) (q : Nat) : Int32 := jvSr s d e (fun q => s (15 + q)) (jz s 34) q
def jgSer (s d e : jvA) (x1 v : Int32) : Prop := ∃ q, q < jz s 1 ∧ x1 = nI q ∧ v = jgSr s d e q
theorem sp_M_throwsIf {D : Nat} (hD : 1 ≤ D) {kk : Int32 → jaT → Prop} {σ : jaT} {b : Nat} (hb : b ≤ 1) (h : kk (nI b) (jaU σ 20 (jaUI (σ 20) 70 0 0 (nI b)))) : jaDe D jy_M_throwsIf [jaMo, .inl (nI b)] σ (jaKi kk) := by
  obtain ⟨D, rfl, hD⟩ := jaSuc hD
  apply js_M_throwsIf
  have : b = 0 ∨ b = 1 := by omega
  rcases this with rfl | rfl
  · exact ⟨fun _ => ⟨Or.inl rfl, h⟩, fun z => absurd rfl z⟩
  · exact ⟨fun z => absurd z (by decide), fun _ => ⟨Or.inr rfl, h⟩⟩
theorem jg_M_value {τ : jaT} (hI : jI τ) {x1 x2 : Int32} {kk : Int32 → jaT → Prop} (h : ∀ v B, jgVal ((τ 20).1 72 0) x1 x2 v → jI (jaU τ 20 B) → B.1 70 0 0 = nI 0 → kk v (jaU τ 20 B)) (hn : (¬ ∃ v, jgVal ((τ 20).1 72 0) x1 x2 v) → ∀ B, jI (jaU τ 20 B) → B.1 70 0 0 = nI 1 → kk (nI 0) (jaU τ 20 B)) : jaDe 12 jy_M_value [jaMo, .inl x1, .inl x2] τ (jaKi kk) := by
  have hW := hI.W
  have hC := hW.w.2.2.1
  have hK := hW.w.2.1
  have N : (¬ ∃ v, jgVal ((τ 20).1 72 0) x1 x2 v) → jaDe 11 jy_M_throwsIf [jaMo, .inl (nI 1)] τ (jaKi fun r4 σ3 => (r4 = 0 → vp_in (((nI 145) + ((nI 10) * x1)) + x2) 706 ∧ kk ((σ3 20).1 72 0 (jaIx (((nI 145) + ((nI 10) * x1)) + x2))) σ3) ∧ (¬ r4 = 0 → kk (nI 0) σ3)) := fun z => sp_M_throwsIf (by omega) (by omega) ⟨fun y => absurd y (by decide), fun _ => hn z _ (jI_0 hI) (by simp (disch := first | omega | decide) only [jaU_eq, jaU_U, nI_add, pk_mul, jaIx_nI, vp_inT, true_and, and_true, ↓jaO0, ↓jaO1, nI_z, nI_z2, nI_z3, nI_z4, nI_z5, nI_lt', nI_le', nI_eq', jaUI_at, jaPt_eq, jaPt_ne, jaUI_o, jaUI_2, jaUL_at, jaUL_o, jaUL_1, jaB_z, jaB_1, ↓jaB_01, Classical.not_not, and_self, true_or, or_true, nI_11, Nat.reduceEqDiff, Nat.reduceAdd, Nat.reduceMul, Nat.add_zero, Nat.zero_add, Nat.mul_zero, not_true_eq_false, not_false_eq_true, false_implies, true_implies])⟩
  refine js_M_value ?_
  refine jaAk (k := 20) (B := τ 20) (P := fun τ' => jaDe 11 jy_M_isCopy [jaMo, .inl x1] τ' (jaKi _)) rfl ?_
  refine sp_M_isCopy (s := (τ 20).1 72 0) (by omega) rfl hC.1 (by omega) ?_
  rw [jaU_self]
  refine ⟨fun z => ?_, fun z => ?_⟩
  · rw [jaB_z] at z
    exact N (fun ⟨v, c, q, h1, h2, h3, h4, _⟩ => z ⟨c, h1, h3⟩)
  · rw [jaB_z, Classical.not_not] at z
    obtain ⟨c, hc, rfl⟩ := z
    refine jaAk (k := 20) (B := τ 20) (P := fun τ' => jaDe 11 jy_M_isKey [jaMo, .inl x2] τ' (jaKi _)) rfl ?_
    refine sp_M_isKey (s := (τ 20).1 72 0) (by omega) rfl hK.1 (by omega) ?_
    rw [jaU_self]
    refine ⟨fun z => ?_, fun z => ?_⟩
    · rw [jaB_z, Classical.not_not] at z
      obtain ⟨q, hq, rfl⟩ := z
      refine sp_M_throwsIf (b := 0) (by omega) (by omega) ⟨fun _ => ?_, fun y => absurd rfl y⟩
      have hv := h ((τ 20).1 72 0 (145 + 10 * c + q)) (jaUI (τ 20) 70 0 0 (nI 0)) ⟨c, q, hc, hq, rfl, rfl, rfl⟩ (jI_0 hI) (by simp (disch := first | omega | decide) only [jaU_eq, jaU_U, nI_add, pk_mul, jaIx_nI, vp_inT, true_and, and_true, ↓jaO0, ↓jaO1, nI_z, nI_z2, nI_z3, nI_z4, nI_z5, nI_lt', nI_le', nI_eq', jaUI_at, jaPt_eq, jaPt_ne, jaUI_o, jaUI_2, jaUL_at, jaUL_o, jaUL_1, jaB_z, jaB_1, ↓jaB_01, Classical.not_not, and_self, true_or, or_true, nI_11, Nat.reduceEqDiff, Nat.reduceAdd, Nat.reduceMul, Nat.add_zero, Nat.zero_add, Nat.mul_zero, not_true_eq_false, not_false_eq_true, false_implies, true_implies])
      simp (disch := first | omega | decide) only [jaU_eq, jaU_U, nI_add, pk_mul, jaIx_nI, vp_inT, true_and, and_true, ↓jaO0, ↓jaO1, nI_z, nI_z2, nI_z3, nI_z4, nI_z5, nI_lt', nI_le', nI_eq', jaUI_at, jaPt_eq, jaPt_ne, jaUI_o, jaUI_2, jaUL_at, jaUL_o, jaUL_1, jaB_z, jaB_1, ↓jaB_01, Classical.not_not, and_self, true_or, or_true, nI_11, Nat.reduceEqDiff, Nat.reduceAdd, Nat.reduceMul, Nat.add_zero, Nat.zero_add, Nat.mul_zero, not_true_eq_false, not_false_eq_true, false_implies, true_implies]
      exact hv
    · rw [jaB_z] at z
      exact N (fun ⟨v, c', q, h1, h2, h3, h4, _⟩ => z ⟨q, h2, h4⟩)
theorem jg_M_serial {τ : jaT} (hI : jI τ) {x1 : Int32} {kk : Int32 → jaT → Prop} (h : ∀ v B, jgSer ((τ 20).1 72 0) ((τ 20).1 75 0) ((τ 20).1 76 0) x1 v → jI (jaU τ 20 B) → B.1 70 0 0 = nI 0 → kk v (jaU τ 20 B)) (hn : (¬ ∃ v, jgSer ((τ 20).1 72 0) ((τ 20).1 75 0) ((τ 20).1 76 0) x1 v) → ∀ B, jI (jaU τ 20 B) → B.1 70 0 0 = nI 1 → kk (nI 0) (jaU τ 20 B)) : jaDe 12 jy_M_serial [jaMo, .inl x1] τ (jaKi kk) := by
  have hW := hI.W
  have hK := hW.w.2.1
  have hO := hW.o.ord
  refine js_M_serial ?_
  refine jaAk (k := 20) (B := τ 20) (P := fun τ' => jaDe 11 jy_M_isKey [jaMo, .inl x1] τ' (jaKi _)) rfl ?_
  refine sp_M_isKey (s := (τ 20).1 72 0) (by omega) rfl hK.1 (by omega) ?_
  rw [jaU_self]
  refine ⟨fun z => ?_, fun z => ?_⟩
  · rw [jaB_z, Classical.not_not] at z
    obtain ⟨q, hq, rfl⟩ := z
    refine sp_M_throwsIf (b := 0) (by omega) (by omega) ⟨fun _ => ?_, fun y => absurd rfl y⟩
    generalize hs : (τ 20).1 72 0 = s at *
    generalize hd : (τ 20).1 75 0 = d at *
    generalize he : (τ 20).1 76 0 = e at *
    refine sp_M_serialFirst (s := s) (r := (jaUI (τ 20) 70 0 0 (nI 0)).1 81 0) (by omega) (by simp (disch := first | omega | decide) only [jaU_eq, jaU_U, nI_add, pk_mul, jaIx_nI, vp_inT, true_and, and_true, ↓jaO0, ↓jaO1, nI_z, nI_z2, nI_z3, nI_z4, nI_z5, nI_lt', nI_le', nI_eq', jaUI_at, jaPt_eq, jaPt_ne, jaUI_o, jaUI_2, jaUL_at, jaUL_o, jaUL_1, jaB_z, jaB_1, ↓jaB_01, Classical.not_not, and_self, true_or, or_true, nI_11, Nat.reduceEqDiff, Nat.reduceAdd, Nat.reduceMul, Nat.add_zero, Nat.zero_add, Nat.mul_zero, not_true_eq_false, not_false_eq_true, false_implies, true_implies, hs]) rfl (fun S1 a1 f1 => ?_)
    have s1 : S1.1 72 0 = s := (congrFun (f1.s 72 (by decide) (by decide)) 0).trans (by simp (disch := first | omega | decide) only [jaU_eq, jaU_U, nI_add, pk_mul, jaIx_nI, vp_inT, true_and, and_true, ↓jaO0, ↓jaO1, nI_z, nI_z2, nI_z3, nI_z4, nI_z5, nI_lt', nI_le', nI_eq', jaUI_at, jaPt_eq, jaPt_ne, jaUI_o, jaUI_2, jaUL_at, jaUL_o, jaUL_1, jaB_z, jaB_1, ↓jaB_01, Classical.not_not, and_self, true_or, or_true, nI_11, Nat.reduceEqDiff, Nat.reduceAdd, Nat.reduceMul, Nat.add_zero, Nat.zero_add, Nat.mul_zero, not_true_eq_false, not_false_eq_true, false_implies, true_implies, hs])
    have d1 : S1.1 75 0 = d := (congrFun (f1.s 75 (by decide) (by decide)) 0).trans (by simp (disch := first | omega | decide) only [jaU_eq, jaU_U, nI_add, pk_mul, jaIx_nI, vp_inT, true_and, and_true, ↓jaO0, ↓jaO1, nI_z, nI_z2, nI_z3, nI_z4, nI_z5, nI_lt', nI_le', nI_eq', jaUI_at, jaPt_eq, jaPt_ne, jaUI_o, jaUI_2, jaUL_at, jaUL_o, jaUL_1, jaB_z, jaB_1, ↓jaB_01, Classical.not_not, and_self, true_or, or_true, nI_11, Nat.reduceEqDiff, Nat.reduceAdd, Nat.reduceMul, Nat.add_zero, Nat.zero_add, Nat.mul_zero, not_true_eq_false, not_false_eq_true, false_implies, true_implies, hd])
    have e1 : S1.1 76 0 = e := (congrFun (f1.s 76 (by decide) (by decide)) 0).trans (by simp (disch := first | omega | decide) only [jaU_eq, jaU_U, nI_add, pk_mul, jaIx_nI, vp_inT, true_and, and_true, ↓jaO0, ↓jaO1, nI_z, nI_z2, nI_z3, nI_z4, nI_z5, nI_lt', nI_le', nI_eq', jaUI_at, jaPt_eq, jaPt_ne, jaUI_o, jaUI_2, jaUL_at, jaUL_o, jaUL_1, jaB_z, jaB_1, ↓jaB_01, Classical.not_not, and_self, true_or, or_true, nI_11, Nat.reduceEqDiff, Nat.reduceAdd, Nat.reduceMul, Nat.add_zero, Nat.zero_add, Nat.mul_zero, not_true_eq_false, not_false_eq_true, false_implies, true_implies, he])
    have g0 : S1.1 70 0 0 = nI 0 := by
      rw [f1.f 0 List.not_mem_nil]
      simp (disch := first | omega | decide) only [jaU_eq, jaU_U, nI_add, pk_mul, jaIx_nI, vp_inT, true_and, and_true, ↓jaO0, ↓jaO1, nI_z, nI_z2, nI_z3, nI_z4, nI_z5, nI_lt', nI_le', nI_eq', jaUI_at, jaPt_eq, jaPt_ne, jaUI_o, jaUI_2, jaUL_at, jaUL_o, jaUL_1, jaB_z, jaB_1, ↓jaB_01, Classical.not_not, and_self, true_or, or_true, nI_11, Nat.reduceEqDiff, Nat.reduceAdd, Nat.reduceMul, Nat.add_zero, Nat.zero_add, Nat.mul_zero, not_true_eq_false, not_false_eq_true, false_implies, true_implies]
    have F1 : jaFr [80, 81] [0, 29] (τ 20) S1 := (jaFr.rfl.uf (by decide)).trans (f1.mono (by decide) (by decide))
    generalize hr : jvCp ((jaUI (τ 20) 70 0 0 (nI 0)).1 81 0) 0 s 15 10 = r at *
    have hr' : ∀ j, j < jz s 1 → r j = s (15 + j) := fun j hj => by
      have := hK.2
      rw [← hr]
      have := @jvCp_in ((jaUI (τ 20) 70 0 0 (nI 0)).1 81 0) s 0 15 10 j (by omega)
      rw [Nat.zero_add] at this
      exact this
    refine jaFor (C := fun j => ∀ S', S'.1 81 0 = jvSr s d e r j → S'.1 72 0 = s → S'.1 75 0 = d → S'.1 76 0 = e → S'.1 70 0 0 = nI 0 → jaFr [80, 81] [0, 29] (τ 20) S' → jc_M_serial_4 11 kk (nI q) (nI j) (jaU τ 20 S')) (N := jz s 34) ?_ (fun j hj ih => ?_) S1 a1 s1 d1 e1 g0 F1
    · intro S' a s' d' e' g f
      have hK10 := hK.2
      apply jb_M_serial_4
      simp (disch := first | omega | decide) only [jaU_eq, jaU_U, nI_add, pk_mul, jaIx_nI, vp_inT, true_and, and_true, ↓jaO0, ↓jaO1, nI_z, nI_z2, nI_z3, nI_z4, nI_z5, nI_lt', nI_le', nI_eq', jaUI_at, jaPt_eq, jaPt_ne, jaUI_o, jaUI_2, jaUL_at, jaUL_o, jaUL_1, jaB_z, jaB_1, ↓jaB_01, Classical.not_not, and_self, true_or, or_true, nI_11, Nat.reduceEqDiff, Nat.reduceAdd, Nat.reduceMul, Nat.add_zero, Nat.zero_add, Nat.mul_zero, not_true_eq_false, not_false_eq_true, false_implies, true_implies, s', hO.1]
      refine ⟨fun _ => ?_, fun z => absurd (Nat.le_refl _) z⟩
      have hv := h (jgSr s d e q) S' ⟨q, hq, rfl, rfl⟩ (jI_M hI f (by decide) (by decide)) g
      unfold jgSr at hv
      rw [← jvSr_c hW hr' (jz s 34) (Nat.le_refl _) q hq] at hv
      rw [a]
      (try simp (disch := first | omega | decide) only [jaU_eq, jaU_U, nI_add, pk_mul, jaIx_nI, vp_inT, true_and, and_true, ↓jaO0, ↓jaO1, nI_z, nI_z2, nI_z3, nI_z4, nI_z5, nI_lt', nI_le', nI_eq', jaUI_at, jaPt_eq, jaPt_ne, jaUI_o, jaUI_2, jaUL_at, jaUL_o, jaUL_1, jaB_z, jaB_1, ↓jaB_01, Classical.not_not, and_self, true_or, or_true, nI_11, Nat.reduceEqDiff, Nat.reduceAdd, Nat.reduceMul, Nat.add_zero, Nat.zero_add, Nat.mul_zero, not_true_eq_false, not_false_eq_true, false_implies, true_implies])
      exact hv
    · intro S' a s' d' e' g f
      apply jb_M_serial_4
      simp (disch := first | omega | decide) only [jaU_eq, jaU_U, nI_add, pk_mul, jaIx_nI, vp_inT, true_and, and_true, ↓jaO0, ↓jaO1, nI_z, nI_z2, nI_z3, nI_z4, nI_z5, nI_lt', nI_le', nI_eq', jaUI_at, jaPt_eq, jaPt_ne, jaUI_o, jaUI_2, jaUL_at, jaUL_o, jaUL_1, jaB_z, jaB_1, ↓jaB_01, Classical.not_not, and_self, true_or, or_true, nI_11, Nat.reduceEqDiff, Nat.reduceAdd, Nat.reduceMul, Nat.add_zero, Nat.zero_add, Nat.mul_zero, not_true_eq_false, not_false_eq_true, false_implies, true_implies, s']
      rw [hO.1]
      refine ⟨fun z => absurd z (by rw [nI_le' (by omega) (by omega)]; omega), fun _ => ?_⟩
      refine sp_M_serialNext (by omega) s' d' e' a hW hj (fun S2 a2 f2 => ?_)
      refine ih S2 a2 ?_ ?_ ?_ ?_ (f.trans (f2.mono (by decide) (by decide)))
      · exact (congrFun (f2.s 72 (by decide) (by decide)) 0).trans s'
      · exact (congrFun (f2.s 75 (by decide) (by decide)) 0).trans d'
      · exact (congrFun (f2.s 76 (by decide) (by decide)) 0).trans e'
      · rw [f2.f 0 (by decide)]
        exact g
  · rw [jaB_z] at z
    exact sp_M_throwsIf (b := 1) (by omega) (by omega) ⟨fun y => absurd y (by decide), fun _ => hn (fun ⟨v, q, h1, h2, _⟩ => z ⟨q, h1, h2⟩) _ (jI_0 hI) (by simp (disch := first | omega | decide) only [jaU_eq, jaU_U, nI_add, pk_mul, jaIx_nI, vp_inT, true_and, and_true, ↓jaO0, ↓jaO1, nI_z, nI_z2, nI_z3, nI_z4, nI_z5, nI_lt', nI_le', nI_eq', jaUI_at, jaPt_eq, jaPt_ne, jaUI_o, jaUI_2, jaUL_at, jaUL_o, jaUL_1, jaB_z, jaB_1, ↓jaB_01, Classical.not_not, and_self, true_or, or_true, nI_11, Nat.reduceEqDiff, Nat.reduceAdd, Nat.reduceMul, Nat.add_zero, Nat.zero_add, Nat.mul_zero, not_true_eq_false, not_false_eq_true, false_implies, true_implies])⟩
end
