section
/-! bits of longs -/
def jaLb (P : Int64) (j : Nat) : Prop := P.toBitVec.getLsbD j = true
theorem jaL_u : ∀ i : Fin 64, (Int64.toUInt64 (Int32.toInt64 (nI i.1)) &&& Int64.toUInt64 63).toNat = i.1 := by decide
theorem jaL_l : ∀ i : Fin 64, ((Int32.toInt64 (nI i.1) &&& 63).toBitVec.smod 64).toNat = i.1 := by decide
theorem jaL_bit {P : Int64} {j : Nat} (hj : j < 64) : (lg_cmp (((Int64.toUInt64 P >>> (Int64.toUInt64 (Int32.toInt64 (nI j)) &&& Int64.toUInt64 63)).toInt64) &&& (Int64.ofNat 1)) (Int64.ofNat 1) = 0) = jaLb P j := by
  have hs := jaL_u ⟨j, hj⟩
  simp only [] at hs
  generalize Int64.toUInt64 (Int32.toInt64 (nI j)) &&& Int64.toUInt64 63 = u at *
  have e : (P.toUInt64 >>> u).toInt64.toBitVec = P.toBitVec >>> j := by
    apply BitVec.eq_of_toNat_eq
    show (P.toUInt64 >>> u).toNat = _
    rw [UInt64.toNat_shiftRight, hs, Nat.mod_eq_of_lt hj, BitVec.toNat_ushiftRight]
    rfl
  rw [lg_cmp_eq, ← Int64.toBitVec_inj, Int64.toBitVec_and, e]
  unfold jaLb
  refine propext ⟨fun h => ?_, fun h => ?_⟩
  · have t := congrArg (fun x => x.getLsbD 0) h
    simp only [BitVec.getLsbD_and, BitVec.getLsbD_ushiftRight, Nat.add_zero] at t
    cases hb : P.toBitVec.getLsbD j
    · rw [hb] at t
      exact absurd t (by decide)
    · rfl
  · apply BitVec.eq_of_getLsbD_eq
    intro i hi
    rw [BitVec.getLsbD_and, BitVec.getLsbD_ushiftRight]
    by_cases q : i = 0
    · rw [q, Nat.add_zero, h]
      decide
    · have : (Int64.ofNat 1).toBitVec.getLsbD i = false := by
        show (1#64).getLsbD i = false
        rw [BitVec.getLsbD_one]
        simp [q]
      rw [this, Bool.and_false]
theorem jaL_0 {j : Nat} : ¬ jaLb (Int64.ofNat 0) j := by
  unfold jaLb
  show ¬ (0#64).getLsbD j = true
  rw [BitVec.getLsbD_zero]
  decide
theorem jaL_or {P : Int64} {i j : Nat} (hi : i < 64) (hj : j < 64) : jaLb (P ||| ((Int64.ofNat 1) <<< (Int32.toInt64 (nI i) &&& 63))) j ↔ jaLb P j ∨ j = i := by
  unfold jaLb
  rw [Int64.toBitVec_or, BitVec.getLsbD_or, Bool.or_eq_true, Int64.toBitVec_shiftLeft]
  have e : ((Int64.ofNat 1).toBitVec <<< ((Int32.toInt64 (nI i) &&& 63).toBitVec.smod 64).toNat).getLsbD j = true ↔ j = i := by
    rw [jaL_l ⟨i, hi⟩]
    show ((1#64) <<< i).getLsbD j = true ↔ j = i
    rw [BitVec.getLsbD_shiftLeft, BitVec.getLsbD_one]
    simp
    omega
  exact or_congr Iff.rfl e
/-! the class: who is executed, who is ready -/
theorem sp_Cp_isExecuted {D : Nat} (hD : 1 ≤ D) {kk : Int32 → jaT → Prop} {σ : jaT} {S : jaS} {s d e : jvA} {k c i : Nat} (hR : jR S (s, d, e)) (hW : jWc s) (hc : c < jz s 2) (hc3 : c < 3) (hi : i < jz s 34) (hi40 : i < 40) (h : kk (jaB (jvOv s c i)) (jaU σ k S)) : jaDe D jy_Cp_isExecuted [jcCp k c, .inl (nI i)] (jaU σ k S) (jaKi kk) := by
  obtain ⟨D, rfl, hD⟩ := jaSuc hD
  have hv := ((hR.c c hc).2 i hi).1
  have hb := (hW c i hc3 hi40).1
  unfold jvOv at h
  simp only [] at hv
  rw [hb.1] at hv h
  generalize jz s (175 + 40 * c + i) = m at *
  apply js_Cp_isExecuted
  simp (disch := first | omega | decide) only [jaU_eq, jaU_U, nI_add, pk_mul, jaIx_nI, vp_inT, true_and, and_true, ↓jaO0, ↓jaO1, nI_z, nI_z2, nI_z3, nI_z4, nI_z5, nI_lt', nI_le', nI_eq', jaUI_at, jaPt_eq, jaPt_ne, jaUI_o, jaUI_2, jaUL_at, jaUL_o, jaUL_1, jaB_z, jaB_1, ↓jaB_01, Classical.not_not, and_self, true_or, or_true, nI_11, Nat.reduceEqDiff, Nat.reduceAdd, Nat.reduceMul, Nat.add_zero, Nat.zero_add, Nat.mul_zero, not_true_eq_false, not_false_eq_true, false_implies, true_implies, hv]
  refine ⟨fun q => (jaBk h).2 (fun z => z ?_), fun q => ⟨fun q2 => (jaBk h).2 (fun z => z ?_), fun q2 => (jaBk h).1 (fun z => ?_)⟩⟩
  · rw [nI_le' (by omega) (by omega)]; omega
  · rw [nI_le' (by omega) (by omega)]; omega
  · rw [nI_le' (by omega) (by omega)] at z; omega
theorem sp_Cp_isExecutedAhead {D : Nat} (hD : 2 ≤ D) {kk : Int32 → jaT → Prop} {σ : jaT} {S : jaS} {s d e : jvA} {k c n : Nat} (hR : jR S (s, d, e)) (hW : jWc s) (hc : c < jz s 2) (hc3 : c < 3) (hn : n ≤ jz s 34) (hO : jz s 34 ≤ 40) (h : kk (jaB (jvAo s c n)) (jaU σ k S)) : jaDe D jy_Cp_isExecutedAhead [jcCp k c, .inl (nI n)] (jaU σ k S) (jaKi kk) := by
  obtain ⟨D, rfl, hD⟩ := jaSuc hD
  apply js_Cp_isExecutedAhead
  refine jaFor (C := fun i => (∀ j, j < i → jvOv s c j) → jc_Cp_isExecutedAhead_1 D kk k c (nI n) (nI i) (jaU σ k S)) (N := n) ?_ (fun i hi ih => ?_) (fun j hj => absurd hj (by omega))
  · intro ha
    apply jb_Cp_isExecutedAhead_1
    simp (disch := first | omega | decide) only [jaU_eq, jaU_U, nI_add, pk_mul, jaIx_nI, vp_inT, true_and, and_true, ↓jaO0, ↓jaO1, nI_z, nI_z2, nI_z3, nI_z4, nI_z5, nI_lt', nI_le', nI_eq', jaUI_at, jaPt_eq, jaPt_ne, jaUI_o, jaUI_2, jaUL_at, jaUL_o, jaUL_1, jaB_z, jaB_1, ↓jaB_01, Classical.not_not, and_self, true_or, or_true, nI_11, Nat.reduceEqDiff, Nat.reduceAdd, Nat.reduceMul, Nat.add_zero, Nat.zero_add, Nat.mul_zero, not_true_eq_false, not_false_eq_true, false_implies, true_implies]
    refine ⟨fun _ => ?_, fun q => absurd (by omega) q⟩
    rw [jaB_t (show jvAo s c n from ha)] at h
    exact h
  · intro ha
    apply jb_Cp_isExecutedAhead_1
    simp (disch := first | omega | decide) only [jaU_eq, jaU_U, nI_add, pk_mul, jaIx_nI, vp_inT, true_and, and_true, ↓jaO0, ↓jaO1, nI_z, nI_z2, nI_z3, nI_z4, nI_z5, nI_lt', nI_le', nI_eq', jaUI_at, jaPt_eq, jaPt_ne, jaUI_o, jaUI_2, jaUL_at, jaUL_o, jaUL_1, jaB_z, jaB_1, ↓jaB_01, Classical.not_not, and_self, true_or, or_true, nI_11, Nat.reduceEqDiff, Nat.reduceAdd, Nat.reduceMul, Nat.add_zero, Nat.zero_add, Nat.mul_zero, not_true_eq_false, not_false_eq_true, false_implies, true_implies]
    refine ⟨fun q => absurd q (by omega), fun _ => ⟨fun q => absurd q (by omega), fun _ => ?_⟩⟩
    refine sp_Cp_isExecuted (by omega) hR hW hc hc3 (by omega) (by omega) ?_
    simp (disch := first | omega | decide) only [jaU_eq, jaU_U, nI_add, pk_mul, jaIx_nI, vp_inT, true_and, and_true, ↓jaO0, ↓jaO1, nI_z, nI_z2, nI_z3, nI_z4, nI_z5, nI_lt', nI_le', nI_eq', jaUI_at, jaPt_eq, jaPt_ne, jaUI_o, jaUI_2, jaUL_at, jaUL_o, jaUL_1, jaB_z, jaB_1, ↓jaB_01, Classical.not_not, and_self, true_or, or_true, nI_11, Nat.reduceEqDiff, Nat.reduceAdd, Nat.reduceMul, Nat.add_zero, Nat.zero_add, Nat.mul_zero, not_true_eq_false, not_false_eq_true, false_implies, true_implies]
    refine ⟨fun q => ih (fun j hj => if e : j = i then (by rw [e]; exact q) else ha j (by omega)), fun q => ?_⟩
    rw [jaB_f (show ¬ jvAo s c n from fun z => q (z i hi))] at h
    exact h
theorem jvHas_iff {s e : jvA} {c i : Nat} {rA wA : Int32} (hr : ∀ b, b < 32 → (jaBt rA b ↔ ∃ j, j < i ∧ ¬ jvOv s c j ∧ jaBt (e (9 * jvId s j + 2)) b)) (hw : ∀ b, b < 32 → (jaBt wA b ↔ ∃ j, j < i ∧ ¬ jvOv s c j ∧ jaBt (e (9 * jvId s j + 3)) b)) :
    (e (9 * jvId s i + 2) &&& wA = 0 ∧ e (9 * jvId s i + 3) &&& (rA ||| wA) = 0) ↔ jvAh s e c i i = 0 := by
  unfold jvAh
  rw [jaCnt_z, jaBt_z, jaBt_z]
  constructor
  · rintro ⟨h1, h2⟩ j hj ⟨h3, h4⟩
    unfold jvCf at h4
    apply h4
    rw [jaBt_z]
    intro b hb hx
    rw [jaBt_or hb, jaBt_and hb, jaBt_and hb, jaBt_or hb] at hx
    rcases hx with ⟨x1, x2 | x2⟩ | ⟨x1, x2⟩
    · exact h2 b hb (by rw [jaBt_and hb, jaBt_or hb, hr b hb]; exact ⟨x1, Or.inl ⟨j, hj, h3, x2⟩⟩)
    · exact h2 b hb (by rw [jaBt_and hb, jaBt_or hb, hw b hb]; exact ⟨x1, Or.inr ⟨j, hj, h3, x2⟩⟩)
    · exact h1 b hb (by rw [jaBt_and hb, hw b hb]; exact ⟨x1, j, hj, h3, x2⟩)
  · intro h
    have h' : ∀ j, j < i → ¬ jvOv s c j → e (9 * jvId s i + 3) &&& (e (9 * jvId s j + 2) ||| e (9 * jvId s j + 3)) ||| (e (9 * jvId s i + 2) &&& e (9 * jvId s j + 3)) = 0 := fun j hj hv => Classical.byContradiction fun z => h j hj ⟨hv, z⟩
    refine ⟨fun b hb hx => ?_, fun b hb hx => ?_⟩
    · rw [jaBt_and hb, hw b hb] at hx
      obtain ⟨x1, j, hj, hv, x2⟩ := hx
      have := jaBt_z.mp (h' j hj hv) b hb
      rw [jaBt_or hb, jaBt_and hb, jaBt_and hb] at this
      exact this (Or.inr ⟨x1, x2⟩)
    · rw [jaBt_and hb, jaBt_or hb, hr b hb, hw b hb] at hx
      obtain ⟨x1, ⟨j, hj, hv, x2⟩ | ⟨j, hj, hv, x2⟩⟩ := hx
      · have := jaBt_z.mp (h' j hj hv) b hb
        rw [jaBt_or hb, jaBt_and hb, jaBt_or hb] at this
        exact this (Or.inl ⟨x1, Or.inl x2⟩)
      · have := jaBt_z.mp (h' j hj hv) b hb
        rw [jaBt_or hb, jaBt_and hb, jaBt_or hb] at this
        exact this (Or.inl ⟨x1, Or.inr x2⟩)
set_option maxHeartbeats 4000000 in
theorem sp_St_readyPlaces {D : Nat} (hD : 2 ≤ D) {kk : Int64 → jaT → Prop} {σ : jaT} {S : jaS} {s d e : jvA} {k c : Nat} (hR : jR S (s, d, e)) (hW : jW s d e) (hc : c < jz s 2) (h : ∀ P, (∀ j, j < 64 → (jaLb P j ↔ j < jz s 34 ∧ jvRdy s e c j)) → kk P (jaU σ k S)) : jaDe D jy_St_readyPlaces [jcSt k, .inl (nI c)] (jaU σ k S) (jaKl kk) := by
  obtain ⟨D, rfl, hD⟩ := jaSuc hD
  have hc3 : c < 3 := by have := hW.w.2.2.1.2.2; omega
  have hO := hW.o.ord
  have hP := hW.o.pool.2
  have hO' : S.1 60 0 1 = nI (jz s 34) := hR.o.2.1.trans hO.1
  apply js_St_readyPlaces
  refine jaFor (C := fun i => ∀ P rA wA u7 u8, (∀ j, j < 64 → (jaLb P j ↔ j < i ∧ jvRdy s e c j)) → (∀ b, b < 32 → (jaBt rA b ↔ ∃ j, j < i ∧ ¬ jvOv s c j ∧ jaBt (e (9 * jvId s j + 2)) b)) → (∀ b, b < 32 → (jaBt wA b ↔ ∃ j, j < i ∧ ¬ jvOv s c j ∧ jaBt (e (9 * jvId s j + 3)) b)) → jc_St_readyPlaces_1 D kk k (nI c) P rA wA (nI i) u7 u8 (jaU σ k S)) (N := jz s 34) ?_ (fun i hi ih => ?_) _ _ _ none none (fun j hj => ⟨fun z => absurd z jaL_0, fun z => absurd z.1 (by omega)⟩) (fun b hb => ⟨fun z => absurd z (jaBt_0 hb), fun ⟨j, hj, _⟩ => absurd hj (by omega)⟩) (fun b hb => ⟨fun z => absurd z (jaBt_0 hb), fun ⟨j, hj, _⟩ => absurd hj (by omega)⟩)
  · intro P rA wA u7 u8 hPb hr hw
    apply jb_St_readyPlaces_1
    simp (disch := first | omega | decide) only [jaU_eq, jaU_U, nI_add, pk_mul, jaIx_nI, vp_inT, true_and, and_true, ↓jaO0, ↓jaO1, nI_z, nI_z2, nI_z3, nI_z4, nI_z5, nI_lt', nI_le', nI_eq', jaUI_at, jaPt_eq, jaPt_ne, jaUI_o, jaUI_2, jaUL_at, jaUL_o, jaUL_1, jaB_z, jaB_1, ↓jaB_01, Classical.not_not, and_self, true_or, or_true, nI_11, Nat.reduceEqDiff, Nat.reduceAdd, Nat.reduceMul, Nat.add_zero, Nat.zero_add, Nat.mul_zero, not_true_eq_false, not_false_eq_true, false_implies, true_implies, hO']
    refine ⟨fun _ => ?_, fun q => absurd (by omega) q⟩
    exact h P hPb
  · intro P rA wA u7 u8 hPb hr hw
    obtain ⟨hid, hid'⟩ := hW.o.id hi
    have o1 : S.1 68 0 i = nI (jz s (41 + i)) := ((hR.o.2.2.1 i hi).1).trans hid
    obtain ⟨-, i2, i3, -, -⟩ := hR.e _ hid'
    have i2 : S.1 62 0 (jz s (41 + i)) = e (9 * jz s (41 + i) + 2) := i2
    have i3 : S.1 63 0 (jz s (41 + i)) = e (9 * jz s (41 + i) + 3) := i3
    have hv : S.1 52 c i = s (175 + 40 * c + i) := ((hR.c c hc).2 i hi).1
    have hkey := jvHas_iff hr hw
    have hII : jvId s i = jz s (41 + i) := rfl
    rw [hII] at hkey
    apply jb_St_readyPlaces_1
    simp (disch := first | omega | decide) only [jaU_eq, jaU_U, nI_add, pk_mul, jaIx_nI, vp_inT, true_and, and_true, ↓jaO0, ↓jaO1, nI_z, nI_z2, nI_z3, nI_z4, nI_z5, nI_lt', nI_le', nI_eq', jaUI_at, jaPt_eq, jaPt_ne, jaUI_o, jaUI_2, jaUL_at, jaUL_o, jaUL_1, jaB_z, jaB_1, ↓jaB_01, Classical.not_not, and_self, true_or, or_true, nI_11, Nat.reduceEqDiff, Nat.reduceAdd, Nat.reduceMul, Nat.add_zero, Nat.zero_add, Nat.mul_zero, not_true_eq_false, not_false_eq_true, false_implies, true_implies, hO']
    refine ⟨fun q => absurd q (by omega), fun _ => ?_⟩
    refine sp_Cp_isExecuted (by omega) hR hW.c hc hc3 hi (by omega) ?_
    simp (disch := first | omega | decide) only [jaU_eq, jaU_U, nI_add, pk_mul, jaIx_nI, vp_inT, true_and, and_true, ↓jaO0, ↓jaO1, nI_z, nI_z2, nI_z3, nI_z4, nI_z5, nI_lt', nI_le', nI_eq', jaUI_at, jaPt_eq, jaPt_ne, jaUI_o, jaUI_2, jaUL_at, jaUL_o, jaUL_1, jaB_z, jaB_1, ↓jaB_01, Classical.not_not, and_self, true_or, or_true, nI_11, Nat.reduceEqDiff, Nat.reduceAdd, Nat.reduceMul, Nat.add_zero, Nat.zero_add, Nat.mul_zero, not_true_eq_false, not_false_eq_true, false_implies, true_implies, o1, i2, i3, hv]
    have hstep : ∀ P', (∀ j, j < 64 → (jaLb P' j ↔ j < i + 1 ∧ jvRdy s e c j)) → ¬ jvOv s c i → ∀ u7 u8, jc_St_readyPlaces_1 D kk k (nI c) P' (rA ||| e (9 * jz s (41 + i) + 2)) (wA ||| e (9 * jz s (41 + i) + 3)) (nI (i + 1)) u7 u8 (jaU σ k S) := by
      intro P' hP' hov u7 u8
      refine ih P' _ _ u7 u8 hP' (fun b hb => ?_) (fun b hb => ?_)
      · rw [jaBt_or hb, hr b hb]
        constructor
        · rintro (⟨j, h1, h2⟩ | h1)
          · exact ⟨j, by omega, h2⟩
          · exact ⟨i, by omega, hov, by rw [hII]; exact h1⟩
        · rintro ⟨j, h1, h2, h3⟩
          by_cases q : j = i
          · rw [q, hII] at h3
            exact Or.inr h3
          · exact Or.inl ⟨j, by omega, h2, h3⟩
      · rw [jaBt_or hb, hw b hb]
        constructor
        · rintro (⟨j, h1, h2⟩ | h1)
          · exact ⟨j, by omega, h2⟩
          · exact ⟨i, by omega, hov, by rw [hII]; exact h1⟩
        · rintro ⟨j, h1, h2, h3⟩
          by_cases q : j = i
          · rw [q, hII] at h3
            exact Or.inr h3
          · exact Or.inl ⟨j, by omega, h2, h3⟩
    have hno : ¬ jvRdy s e c i → ∀ j, j < 64 → (jaLb P j ↔ j < i + 1 ∧ jvRdy s e c j) := fun hn j hj => by
      rw [hPb j hj]
      exact ⟨fun z => ⟨by omega, z.2⟩, fun z => ⟨by have : j ≠ i := fun q => hn (by rw [← q]; exact z.2); omega, z.2⟩⟩
    have hyes : jvRdy s e c i → ∀ j, j < 64 → (jaLb (P ||| ((Int64.ofNat 1) <<< (Int32.toInt64 (nI i) &&& 63))) j ↔ j < i + 1 ∧ jvRdy s e c j) := fun hy j hj => by
      rw [jaL_or (by omega) hj, hPb j hj]
      constructor
      · rintro (z | z)
        · exact ⟨by omega, z.2⟩
        · exact ⟨by omega, by rw [z]; exact hy⟩
      · rintro ⟨z1, z2⟩
        by_cases q : j = i
        · exact Or.inr q
        · exact Or.inl ⟨by omega, z2⟩
    refine ⟨fun q => ⟨fun q1 => hstep P (hno fun z => ?_) q _ _, fun q1 => ⟨fun q2 => hstep P (hno fun z => ?_) q _ _, fun q2 => ⟨fun q3 => hstep P (hno fun z => q3 z.1) q _ _, fun q3 => hstep _ (hyes ⟨q3, hkey.mp ⟨q1, q2⟩⟩) q _ _⟩⟩⟩, fun q => ?_⟩
    · exact q1 (hkey.mpr z.2).1
    · exact q2 (hkey.mpr z.2).2
    · refine ih P rA wA u7 u8 (hno fun z => ?_) (fun b hb => ?_) (fun b hb => ?_)
      · have := z.1
        unfold jvOv at q
        rw [this] at q
        exact q (by decide)
      · rw [hr b hb]
        exact ⟨fun ⟨j, h1, h2⟩ => ⟨j, by omega, h2⟩, fun ⟨j, h1, h2, h3⟩ => ⟨j, by have : j ≠ i := (fun e => h2 (by rw [e]; exact q)); omega, h2, h3⟩⟩
      · rw [hw b hb]
        exact ⟨fun ⟨j, h1, h2⟩ => ⟨j, by omega, h2⟩, fun ⟨j, h1, h2, h3⟩ => ⟨j, by have : j ≠ i := (fun e => h2 (by rw [e]; exact q)); omega, h2, h3⟩⟩
/-! the class: a copy's tick -/
theorem jvPk_q0 {p : Nat → Prop} {f : Nat → Nat} : ∀ m i, jvPk p f m i 0 = []
  | 0, _ => rfl
  | m + 1, i => by
    rw [jvPk, jaIf1_t (Or.inl rfl), jvPk_q0 m (i + 1)]
theorem nI_dec {q : Nat} : nI (q + 1) + (-1 : Int32) = nI q := by
  rw [nI_succ, Int32.add_assoc]
  show nI q + 0 = nI q
  exact Int32.add_zero _
set_option maxHeartbeats 4000000 in
theorem sp_St_takeReady {D : Nat} (hD : 6 ≤ D) {kk : jaT → Prop} {σ : jaT} {S : jaS} {s d e : jvA} {k c : Nat} (hR : jR S (s, d, e)) (hW : jW s d e) (hc : c < jz s 2) (h : ∀ S', jR S' ((jvTk d c (jvPks s e c) (s, e)).1, d, (jvTk d c (jvPks s e c) (s, e)).2) → jcE S S' → kk (jaU σ k S')) : jaDe D jy_St_takeReady [jcSt k, .inl (nI c)] (jaU σ k S) (jaKv kk) := by
  obtain ⟨D, rfl, hD⟩ := jaSuc hD
  have hc3 : c < 3 := by have := hW.w.2.2.1.2.2; omega
  have hO := hW.o.ord
  obtain ⟨hw1, hw2, hw4, hw5⟩ := hW.w.2.2.2.2.2.2 c hc
  have w33 : S.1 33 0 c = nI (jz s (25 + c)) := ((hR.w.2.2.1 c hc).1).trans hw1
  apply js_St_takeReady
  refine sp_St_readyPlaces (by omega) hR hW hc (fun P hP => ?_)
  simp (disch := first | omega | decide) only [jaU_eq, jaU_U, nI_add, pk_mul, jaIx_nI, vp_inT, true_and, and_true, ↓jaO0, ↓jaO1, nI_z, nI_z2, nI_z3, nI_z4, nI_z5, nI_lt', nI_le', nI_eq', jaUI_at, jaPt_eq, jaPt_ne, jaUI_o, jaUI_2, jaUL_at, jaUL_o, jaUL_1, jaB_z, jaB_1, ↓jaB_01, Classical.not_not, and_self, true_or, or_true, nI_11, Nat.reduceEqDiff, Nat.reduceAdd, Nat.reduceMul, Nat.add_zero, Nat.zero_add, Nat.mul_zero, not_true_eq_false, not_false_eq_true, false_implies, true_implies, w33]
  have L : ∀ m i q (s1 e1 : jvA) (S' : jaS) u6, i + m = jz s 34 → q ≤ 4 → jR S' (s1, d, e1) → jW s1 d e1 → (∀ j, jKp j → s1 j = s j) → jcE S S' →
      (∀ S', jR S' ((jvTk d c (jvPk (jvRdy s e c) (jvAt s c) m i q) (s1, e1)).1, d, (jvTk d c (jvPk (jvRdy s e c) (jvAt s c) m i q) (s1, e1)).2) → jcE S S' → kk (jaU σ k S')) → jc_St_takeReady_1 D kk k (nI c) P (nI q) (nI i) u6 (jaU σ k S') := by
    intro m
    induction m with
    | zero =>
      intro i q s1 e1 S' u6 hi hq hR1 hW1 hkp f hk
      have o60 : S'.1 60 0 1 = nI (jz s 34) := (hR1.o.2.1).trans ((hkp 34 (Or.inr (Or.inl rfl))).trans hO.1)
      apply jb_St_takeReady_1
      simp (disch := first | omega | decide) only [jaU_eq, jaU_U, nI_add, pk_mul, jaIx_nI, vp_inT, true_and, and_true, ↓jaO0, ↓jaO1, nI_z, nI_z2, nI_z3, nI_z4, nI_z5, nI_lt', nI_le', nI_eq', jaUI_at, jaPt_eq, jaPt_ne, jaUI_o, jaUI_2, jaUL_at, jaUL_o, jaUL_1, jaB_z, jaB_1, ↓jaB_01, Classical.not_not, and_self, true_or, or_true, nI_11, Nat.reduceEqDiff, Nat.reduceAdd, Nat.reduceMul, Nat.add_zero, Nat.zero_add, Nat.mul_zero, not_true_eq_false, not_false_eq_true, false_implies, true_implies, o60]
      refine ⟨fun _ => ?_, fun q => absurd (by omega) q⟩
      exact hk S' hR1 f
    | succ m ih =>
      intro i q s1 e1 S' u6 hi hq hR1 hW1 hkp f hk
      have e34 := hkp 34 (Or.inr (Or.inl rfl))
      have z34 : jz s1 34 = jz s 34 := jz_c e34
      have z2 : jz s1 2 = jz s 2 := jz_c (hkp 2 (Or.inl (by decide)))
      have o60 : S'.1 60 0 1 = nI (jz s 34) := (hR1.o.2.1).trans (e34.trans hO.1)
      have o34 : S'.1 34 0 c = s (28 + c) := ((hR1.w.2.2.1 c (by rw [show jz (s1, d, e1).1 2 = jz s1 2 from rfl, z2]; exact hc)).2).trans (hkp _ (Or.inl (by omega)))
      have hlk := hW1.w.2.2.2.2.1
      have o4 : S'.1 30 0 4 = nI (jz s1 4) := (hR1.w.1.2.2.2.2).trans hlk.1
      apply jb_St_takeReady_1
      simp (disch := first | omega | decide) only [jaU_eq, jaU_U, nI_add, pk_mul, jaIx_nI, vp_inT, true_and, and_true, ↓jaO0, ↓jaO1, nI_z, nI_z2, nI_z3, nI_z4, nI_z5, nI_lt', nI_le', nI_eq', jaUI_at, jaPt_eq, jaPt_ne, jaUI_o, jaUI_2, jaUL_at, jaUL_o, jaUL_1, jaB_z, jaB_1, ↓jaB_01, Classical.not_not, and_self, true_or, or_true, nI_11, Nat.reduceEqDiff, Nat.reduceAdd, Nat.reduceMul, Nat.add_zero, Nat.zero_add, Nat.mul_zero, not_true_eq_false, not_false_eq_true, false_implies, true_implies, o60, o34, o4]
      refine ⟨fun q => absurd q (by omega), fun _ => ?_⟩
      refine ⟨fun q0 => ?_, fun q0 => ?_⟩
      · rw [q0, jvPk_q0] at hk
        exact hk S' hR1 f
      · obtain ⟨q', rfl⟩ : ∃ q', q = q' + 1 := ⟨q - 1, by omega⟩
        have hat := jvAt_lt (s := s) (c := c) (k := i) (by omega)
        rw [jvPk] at hk
        have core : ∀ pl, jvAt s c i = pl → (∀ u, ¬ jvRdy s e c pl → jc_St_takeReady_1 D kk k (nI c) P (nI (q' + 1)) (nI (i + 1)) u (jaU σ k S')) ∧
            (∀ u, jvRdy s e c pl → ¬ jvLg s1 e1 pl → jaDe D jy_St_execute [jcSt k, .inl (nI c), .inl (nI pl)] (jaU σ k S') (jaKv fun σ1 => jc_St_takeReady_1 D kk k (nI c) P (nI q') (nI (i + 1)) u σ1)) ∧
            (∀ u, jvRdy s e c pl → jvLg s1 e1 pl → jc_St_takeReady_1 D kk k (nI c) P (nI q') (nI (i + 1)) u (jaU σ k (jaUI (jaUI S' 52 c pl (nI 1)) 53 c pl (nI (jz s1 4))))) ∧
            (S'.1 68 0 pl = nI (jz s1 (41 + pl)) ∧ jz s1 (41 + pl) < 64 ∧ pl < 40 ∧ (S'.1 64 0 (jz s1 (41 + pl)) = 0 ∧ ¬ jvWd s1 e1 pl ∨ ¬ S'.1 64 0 (jz s1 (41 + pl)) = 0 ∧ jvWd s1 e1 pl)) := by
          intro pl hpl
          rw [hpl] at hk hat
          have hipl : pl < jz s1 34 := by rw [z34]; exact hat
          obtain ⟨w1, w2⟩ := jvTk1_W hW1 hc3 hipl
          have hkp2 : ∀ j, jKp j → (jvTk1 d c pl (s1, e1)).1 j = s j := fun j hj => (w2.1 j hj).trans (hkp j hj)
          refine ⟨fun u hn => ?_, fun u hy hl => ?_, fun u hy hl => ?_, ?_⟩
          · rw [jaIf1_t (Or.inr hn)] at hk
            exact ih (i + 1) (q' + 1) s1 e1 S' u (by omega) hq hR1 hW1 hkp f hk
          · rw [jaIf1_f (fun x => x.elim (fun y => absurd y (by omega)) (fun y => y hy)), Nat.add_sub_cancel] at hk
            unfold jvTk1 at w1 hkp2
            rw [jaIf1_f hl] at w1 hkp2
            have ht : jvTk d c (pl :: jvPk (jvRdy s e c) (jvAt s c) m (i + 1) q') (s1, e1) = jvTk d c (jvPk (jvRdy s e c) (jvAt s c) m (i + 1) q') (jvEx s1 d e1 c pl) := by
              show jvTk d c _ (jvTk1 d c pl (s1, e1)) = _
              unfold jvTk1
              rw [jaIf1_f hl]
            rw [ht] at hk
            refine sp_St_execute (by omega) hR1 hW1.X hW1.kk (by rw [z2]; exact hc) hipl (fun S2 a2 b2 => ?_)
            exact ih (i + 1) q' _ _ S2 u (by omega) (by omega) a2 w1 hkp2 (b2.trans f) hk
          · rw [jaIf1_f (fun x => x.elim (fun y => absurd y (by omega)) (fun y => y hy)), Nat.add_sub_cancel] at hk
            unfold jvTk1 at w1 hkp2
            rw [jaIf1_t hl] at w1 hkp2
            have ht : jvTk d c (pl :: jvPk (jvRdy s e c) (jvAt s c) m (i + 1) q') (s1, e1) = jvTk d c (jvPk (jvRdy s e c) (jvAt s c) m (i + 1) q') (jaPt (jaPt s1 (175 + 40 * c + pl) (nI 1)) (295 + 40 * c + pl) (s1 4), e1) := by
              show jvTk d c _ (jvTk1 d c pl (s1, e1)) = _
              unfold jvTk1
              rw [jaIf1_t hl]
            rw [ht] at hk
            have hkk := hW1.kk
            have hR2 := jR_go (v := s1 4) hR1 hW1.X (by rw [z2]; exact hc) hipl hkk.1 hkk.2.1
            rw [← hlk.1]
            exact ih (i + 1) q' _ _ _ u (by omega) (by omega) hR2 w1 hkp2 (jcE_ui (by decide) (jcE_ui (by decide) f)) hk
          · obtain ⟨hid, hid'⟩ := hW1.o.id hipl
            have hP64 := hW1.o.pool.2
            have i4 := (hR1.e _ hid').2.2.2.1
            have hwd := (hW1.e _ hid').2.2.2.2
            refine ⟨((hR1.o.2.2.1 pl hipl).1).trans hid, by omega, by omega, ?_⟩
            have i4 : S'.1 64 0 (jz s1 (41 + pl)) = e1 (9 * jz s1 (41 + pl) + 4) := i4
            rw [i4]
            have hII : jvId s1 pl = jz s1 (41 + pl) := rfl
            unfold jvWd
            rw [hII]
            rcases hwd with z | z
            · exact Or.inl ⟨by rw [z]; decide, by rw [z]; decide⟩
            · exact Or.inr ⟨by rw [z]; decide, z⟩
        have hlg : ∀ pl, jz s1 4 = 0 → ¬ jvLg s1 e1 pl := fun pl z x => x.2 (by rw [hlk.1, z]; decide)
        have hlg1 : ∀ pl, ¬ jz s1 4 = 0 → jvWd s1 e1 pl → jvLg s1 e1 pl := fun pl z x => ⟨x, by rw [hlk.1, nI_z4 (by omega)]; exact z⟩
        have hfin : ∀ pl u, jvAt s c i = pl → pl < 64 → ((¬ jaLb P pl → jc_St_takeReady_1 D kk k (nI c) P (nI (q' + 1)) (nI (i + 1)) u (jaU σ k S')) ∧
            (jaLb P pl → (jz s1 4 = 0 → jaDe D jy_St_execute [jcSt k, .inl (nI c), .inl (nI pl)] (jaU σ k S') (jaKv fun σ1 => jc_St_takeReady_1 D kk k (nI c) P (nI q') (nI (i + 1)) u σ1)) ∧
              (¬ jz s1 4 = 0 → (S'.1 64 0 (jz s1 (41 + pl)) = 0 → jaDe D jy_St_execute [jcSt k, .inl (nI c), .inl (nI pl)] (jaU σ k S') (jaKv fun σ1 => jc_St_takeReady_1 D kk k (nI c) P (nI q') (nI (i + 1)) u σ1)) ∧
                (¬ S'.1 64 0 (jz s1 (41 + pl)) = 0 → jc_St_takeReady_1 D kk k (nI c) P (nI q') (nI (i + 1)) u (jaU σ k (jaUI (jaUI S' 52 c pl (nI 1)) 53 c pl (nI (jz s1 4)))))))) := by
          intro pl u hpl h64
          obtain ⟨c1, c2, c3, c4, c5, c6, c7⟩ := core pl hpl
          rw [hpl] at hat
          refine ⟨fun z => c1 u (fun y => z ((hP pl h64).mpr ⟨hat, y⟩)), fun z => ?_⟩
          have hy := ((hP pl h64).mp z).2
          refine ⟨fun z1 => c2 u hy (hlg pl z1), fun z1 => ⟨fun z2 => c2 u hy ?_, fun z2 => c3 u hy ?_⟩⟩
          · rcases c7 with c7 | c7
            · exact fun x => c7.2 x.1
            · exact absurd z2 c7.1
          · rcases c7 with c7 | c7
            · exact absurd c7.1 z2
            · exact hlg1 pl z1 c7.2
        refine ⟨fun ql => ?_, fun ql => ?_⟩
        · have hn1 : ¬ s (28 + c) = nI 1 := fun z => by rw [z] at ql; exact absurd ql (by decide)
          have ea : jvAt s c i = i := jaIf1_f hn1
          obtain ⟨-, -, -, c4, c5, c6, -⟩ := core i ea
          have hf := hfin i (some (.inl (nI i))) ea (by omega)
          rw [jaL_bit (by omega)]
          rw [nI_dec]
          simp (disch := first | omega | decide) only [jaU_eq, jaU_U, nI_add, pk_mul, jaIx_nI, vp_inT, true_and, and_true, ↓jaO0, ↓jaO1, nI_z, nI_z2, nI_z3, nI_z4, nI_z5, nI_lt', nI_le', nI_eq', jaUI_at, jaPt_eq, jaPt_ne, jaUI_o, jaUI_2, jaUL_at, jaUL_o, jaUL_1, jaB_z, jaB_1, ↓jaB_01, Classical.not_not, and_self, true_or, or_true, nI_11, Nat.reduceEqDiff, Nat.reduceAdd, Nat.reduceMul, Nat.add_zero, Nat.zero_add, Nat.mul_zero, not_true_eq_false, not_false_eq_true, false_implies, true_implies, c4]
          exact hf
        · have hn1 : s (28 + c) = nI 1 := hw5.resolve_left (fun z => ql (by rw [z]; decide))
          have ea : jvAt s c i = jz s 34 - 1 - i := jaIf1_t hn1
          obtain ⟨-, -, -, c4, c5, c6, -⟩ := core _ ea
          have hf := hfin _ (some (.inl (nI (jz s 34 - 1 - i)))) ea (by omega)
          rw [nI_sub (show 1 ≤ jz s 34 by omega), nI_sub (show i ≤ jz s 34 - 1 by omega)]
          rw [jaL_bit (by omega)]
          rw [nI_dec]
          simp (disch := first | omega | decide) only [jaU_eq, jaU_U, nI_add, pk_mul, jaIx_nI, vp_inT, true_and, and_true, ↓jaO0, ↓jaO1, nI_z, nI_z2, nI_z3, nI_z4, nI_z5, nI_lt', nI_le', nI_eq', jaUI_at, jaPt_eq, jaPt_ne, jaUI_o, jaUI_2, jaUL_at, jaUL_o, jaUL_1, jaB_z, jaB_1, ↓jaB_01, Classical.not_not, and_self, true_or, or_true, nI_11, Nat.reduceEqDiff, Nat.reduceAdd, Nat.reduceMul, Nat.add_zero, Nat.zero_add, Nat.mul_zero, not_true_eq_false, not_false_eq_true, false_implies, true_implies, c4]
          exact hf
  exact L (jz s 34) 0 (jz s (25 + c)) s e S none (by omega) hw4 hR hW (fun _ _ => rfl) rfl (fun S' a b => h S' a b)
set_option maxHeartbeats 2000000 in
theorem sp_St_passGoing {D : Nat} (hD : 5 ≤ D) {kk : jaT → Prop} {σ : jaT} {S : jaS} {s d e : jvA} {k c : Nat} (hR : jR S (s, d, e)) (hW : jW s d e) (hc : c < jz s 2) (h : ∀ S', jR S' ((jvPs d c (s, e) (jz s 34)).1, d, (jvPs d c (s, e) (jz s 34)).2) → jcE S S' → kk (jaU σ k S')) : jaDe D jy_St_passGoing [jcSt k, .inl (nI c)] (jaU σ k S) (jaKv kk) := by
  obtain ⟨D, rfl, hD⟩ := jaSuc hD
  have hc3 : c < 3 := by have := hW.w.2.2.1.2.2; omega
  have hO := hW.o.ord
  apply js_St_passGoing
  refine jaFor (C := fun i => ∀ S', jR S' ((jvPs d c (s, e) i).1, d, (jvPs d c (s, e) i).2) → jcE S S' → jc_St_passGoing_1 D kk k (nI c) (nI i) (jaU σ k S')) (N := jz s 34) ?_ (fun i hi ih => ?_) S hR rfl
  · intro S' a f
    obtain ⟨w1, w2⟩ := jvPs_W hW hc3 _ (Nat.le_refl _)
    have o60 : S'.1 60 0 1 = nI (jz s 34) := (a.o.2.1).trans ((w2.1 34 (Or.inr (Or.inl rfl))).trans hO.1)
    apply jb_St_passGoing_1
    simp (disch := first | omega | decide) only [jaU_eq, jaU_U, nI_add, pk_mul, jaIx_nI, vp_inT, true_and, and_true, ↓jaO0, ↓jaO1, nI_z, nI_z2, nI_z3, nI_z4, nI_z5, nI_lt', nI_le', nI_eq', jaUI_at, jaPt_eq, jaPt_ne, jaUI_o, jaUI_2, jaUL_at, jaUL_o, jaUL_1, jaB_z, jaB_1, ↓jaB_01, Classical.not_not, and_self, true_or, or_true, nI_11, Nat.reduceEqDiff, Nat.reduceAdd, Nat.reduceMul, Nat.add_zero, Nat.zero_add, Nat.mul_zero, not_true_eq_false, not_false_eq_true, false_implies, true_implies, o60]
    refine ⟨fun _ => ?_, fun q => absurd (by omega) q⟩
    exact h S' a f
  · intro S' a f
    obtain ⟨w1, w2⟩ := jvPs_W hW hc3 i (by omega)
    have hstep : jvPs d c (s, e) (i + 1) = jvPs1 d c i (jvPs d c (s, e) i) := rfl
    rw [hstep] at ih
    have e34 := w2.1 34 (Or.inr (Or.inl rfl))
    have z34 : jz (jvPs d c (s, e) i).1 34 = jz s 34 := jz_c e34
    have z2 : jz (jvPs d c (s, e) i).1 2 = jz s 2 := jz_c (w2.1 2 (Or.inl (by decide)))
    have o60 : S'.1 60 0 1 = nI (jz s 34) := (a.o.2.1).trans (e34.trans hO.1)
    generalize jvPs d c (s, e) i = x at *
    obtain ⟨s1, e1⟩ := x
    simp only [] at a w1 w2 e34 z34 z2
    rw [jvPs1_eq] at ih
    obtain ⟨v1, v2⟩ := (a.c c (show c < jz s1 2 by omega)).2 i (show i < jz s1 34 by omega)
    have v1 : S'.1 52 c i = s1 (175 + 40 * c + i) := v1
    have v2 : s1 (175 + 40 * c + i) = nI 1 → S'.1 53 c i = s1 (295 + 40 * c + i) := v2
    apply jb_St_passGoing_1
    simp (disch := first | omega | decide) only [jaU_eq, jaU_U, nI_add, pk_mul, jaIx_nI, vp_inT, true_and, and_true, ↓jaO0, ↓jaO1, nI_z, nI_z2, nI_z3, nI_z4, nI_z5, nI_lt', nI_le', nI_eq', jaUI_at, jaPt_eq, jaPt_ne, jaUI_o, jaUI_2, jaUL_at, jaUL_o, jaUL_1, jaB_z, jaB_1, ↓jaB_01, Classical.not_not, and_self, true_or, or_true, nI_11, Nat.reduceEqDiff, Nat.reduceAdd, Nat.reduceMul, Nat.add_zero, Nat.zero_add, Nat.mul_zero, not_true_eq_false, not_false_eq_true, false_implies, true_implies, o60, v1]
    refine ⟨fun q => absurd q (by omega), fun _ => ?_⟩
    refine ⟨fun q => ?_, fun q => ?_⟩
    · rw [jaIf1_f q] at ih
      exact ih S' a f
    · rw [jaIf1_t q] at ih
      obtain ⟨l1, l2, l3⟩ := (w1.c c i hc3 (by omega)).2.2 q
      have hkk := w1.kk
      have hR2 := jR_left (v := s1 (295 + 40 * c + i) - nI 1) a w1.X (c := c) (i := i) (by omega) (by omega) hkk.1 hkk.2.1
      have hsd : jvDn s1 c i = jaPt s1 (295 + 40 * c + i) (s1 (295 + 40 * c + i) - nI 1) := rfl
      rw [← hsd] at hR2
      have ed : jvDn s1 c i (295 + 40 * c + i) = nI (jz s1 (295 + 40 * c + i) - 1) := by
        rw [hsd, jaPt_eq, l1, nI_sub l2]
      rw [v2 q]
      have hl : s1 (295 + 40 * c + i) - nI 1 = nI (jz s1 (295 + 40 * c + i) - 1) := by rw [l1, nI_sub l2]
      have hne : ∀ j, j ≠ 295 + 40 * c + i → jvDn s1 c i j = s1 j := fun j hj => jaPt_ne hj
      have hXd : jX (jvDn s1 c i) d e1 := jX_295 w1.X hc3 (by omega)
      have hkd : jKk (jvDn s1 c i) := jKk_c (hne 36 (by omega)) (hne 38 (by omega)) (hne 40 (by omega)) hkk
      rw [ed, nI_z (by omega)] at ih
      rw [hl] at hR2 ⊢
      simp (disch := first | omega | decide) only [jaU_eq, jaU_U, nI_add, pk_mul, jaIx_nI, vp_inT, true_and, and_true, ↓jaO0, ↓jaO1, nI_z, nI_z2, nI_z3, nI_z4, nI_z5, nI_lt', nI_le', nI_eq', jaUI_at, jaPt_eq, jaPt_ne, jaUI_o, jaUI_2, jaUL_at, jaUL_o, jaUL_1, jaB_z, jaB_1, ↓jaB_01, Classical.not_not, and_self, true_or, or_true, nI_11, Nat.reduceEqDiff, Nat.reduceAdd, Nat.reduceMul, Nat.add_zero, Nat.zero_add, Nat.mul_zero, not_true_eq_false, not_false_eq_true, false_implies, true_implies]
      refine ⟨fun q2 => ?_, fun q2 => ?_⟩
      · rw [jaIf1_f (by omega)] at ih
        exact ih _ hR2 (jcE_ui (by decide) f)
      · rw [jaIf1_t (by omega)] at ih
        exact sp_St_execute (by omega) hR2 hXd hkd (by rw [jz_c (hne 2 (by omega))]; omega) (by rw [jz_c (hne 34 (by omega))]; omega) (fun S2 a2 b2 => ih S2 a2 (b2.trans (jcE_ui (by decide) f)))
end
