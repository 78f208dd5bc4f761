section
/-! the class: executing -/
abbrev jcCk (k : Nat) : jaV := .inr (.inr (44, k, 0))
abbrev jcCp (k c : Nat) : jaV := .inr (.inr (50, k, c))
theorem sp_Ck_hasTwin {D : Nat} (hD : 1 ≤ D) {kk : Int32 → jaT → Prop} {σ : jaT} {S : jaS} {k q : Nat} (hq : q < 32) (h : kk (jaB (¬ S.1 44 0 0 = 0 ∧ jaBt (S.1 44 0 3) q)) (jaU σ k S)) : jaDe D jy_Ck_hasTwin [jcCk k, .inl (nI q)] (jaU σ k S) (jaKi kk) := by
  obtain ⟨D, rfl, hD⟩ := jaSuc hD
  apply js_Ck_hasTwin
  rw [jaBt_u hq]
  simp (disch := first | omega | decide) only [jaU_eq, jaU_U, nI_add, pk_mul, jaIx_nI, vp_inT, true_and, and_true, ↓jaO0, ↓jaO1, nI_z, nI_z2, nI_z3, nI_z4, nI_z5, nI_lt', nI_le', nI_eq', jaUI_at, jaPt_eq, jaPt_ne, jaUI_o, jaUI_2, jaUL_at, jaUL_o, jaUL_1, jaB_z, jaB_1, ↓jaB_01, Classical.not_not, and_self, true_or, or_true, nI_11, Nat.reduceEqDiff, Nat.reduceAdd, Nat.reduceMul, Nat.add_zero, Nat.zero_add, Nat.mul_zero, not_true_eq_false, not_false_eq_true, false_implies, true_implies]
  refine ⟨fun z => (jaBk h).2 (fun x => x.1 z), fun z => ⟨fun z2 => (jaBk h).2 (fun x => z2 x.2), fun z2 => (jaBk h).1 ⟨z, z2⟩⟩⟩
/-- what writing an entry's keys asks of a state -/
def jKk (s : jvA) : Prop := jz s 40 ≤ 40 ∧ jz s 38 ≤ 10 ∧ (s 36 = nI 0 ∨ (s 36 = nI 1 ∧ s 38 = nI (jz s 38)))
theorem jW.kk {s d e : jvA} (h : jW s d e) : jKk s := by
  have h10 := h.w.2.1.2
  have hO := h.O
  have h38 := h.k38
  refine ⟨by have := h.k.2.1.2; omega, by omega, ?_⟩
  rcases h.k.1 with q | q
  · exact Or.inl q.1
  · exact Or.inr ⟨q.1, q.2.2.2.1⟩
theorem jKk_c {s s' : jvA} (h36 : s' 36 = s 36) (h38 : s' 38 = s 38) (h40 : s' 40 = s 40) (h : jKk s) : jKk s' := by
  unfold jKk
  rw [h36, h38, jz_c h38, jz_c h40]
  exact h
theorem sp_Ck_noteWrite {D : Nat} (hD : 2 ≤ D) {kk : jaT → Prop} {σ : jaT} {S : jaS} {s d e : jvA} {k i q : Nat} (hR : jR S (s, d, e)) (hX : jX s d e) (hkk : jKk s) (hq : q < jz s 1) (h : ∀ S', jR S' (jvTw s 0 i q, d, e) → jcF [44, 45] S S' → kk (jaU σ k S')) : jaDe D jy_Ck_noteWrite [jcCk k, .inl (nI i), .inl (nI q), .inl (S.1 51 0 q)] (jaU σ k S) (jaKv kk) := by
  obtain ⟨D, rfl, hD⟩ := jaSuc hD
  have h10 := hX.1.2.1.2
  obtain ⟨a, b, -⟩ := hR.k
  have a : S.1 44 0 0 = s 36 := a
  obtain ⟨k40, k38, k36⟩ := hkk
  have hno : ¬ (0 = 0 ∧ s 36 = nI 1 ∧ ¬ nI i < s 37 ∧ ¬ nI q < s 38 ∧ ¬ jaBt (s 39) q) → kk (jaU σ k S) := fun z => h S (by unfold jvTw; rw [jaIf1_f z]; exact hR) jcF.rfl
  apply js_Ck_noteWrite
  simp (disch := first | omega | decide) only [jaU_eq, jaU_U, nI_add, pk_mul, jaIx_nI, vp_inT, true_and, and_true, ↓jaO0, ↓jaO1, nI_z, nI_z2, nI_z3, nI_z4, nI_z5, nI_lt', nI_le', nI_eq', jaUI_at, jaPt_eq, jaPt_ne, jaUI_o, jaUI_2, jaUL_at, jaUL_o, jaUL_1, jaB_z, jaB_1, ↓jaB_01, Classical.not_not, and_self, true_or, or_true, nI_11, Nat.reduceEqDiff, Nat.reduceAdd, Nat.reduceMul, Nat.add_zero, Nat.zero_add, Nat.mul_zero, not_true_eq_false, not_false_eq_true, false_implies, true_implies, a]
  rcases k36 with k36 | ⟨k36, k38'⟩
  · rw [k36]
    (try simp (disch := first | omega | decide) only [jaU_eq, jaU_U, nI_add, pk_mul, jaIx_nI, vp_inT, true_and, and_true, ↓jaO0, ↓jaO1, nI_z, nI_z2, nI_z3, nI_z4, nI_z5, nI_lt', nI_le', nI_eq', jaUI_at, jaPt_eq, jaPt_ne, jaUI_o, jaUI_2, jaUL_at, jaUL_o, jaUL_1, jaB_z, jaB_1, ↓jaB_01, Classical.not_not, and_self, true_or, or_true, nI_11, Nat.reduceEqDiff, Nat.reduceAdd, Nat.reduceMul, Nat.add_zero, Nat.zero_add, Nat.mul_zero, not_true_eq_false, not_false_eq_true, false_implies, true_implies])
    exact hno (fun z => by rw [k36] at z; exact absurd z.2.1 (by decide))
  · obtain ⟨⟨b1, b2, b3⟩, -⟩ := b k36
    have b1 : S.1 44 0 1 = s 37 := b1
    have b2 : S.1 44 0 2 = s 38 := b2
    have b3 : S.1 44 0 3 = s 39 := b3
    rw [k36, b1, b2]
    (try simp (disch := first | omega | decide) only [jaU_eq, jaU_U, nI_add, pk_mul, jaIx_nI, vp_inT, true_and, and_true, ↓jaO0, ↓jaO1, nI_z, nI_z2, nI_z3, nI_z4, nI_z5, nI_lt', nI_le', nI_eq', jaUI_at, jaPt_eq, jaPt_ne, jaUI_o, jaUI_2, jaUL_at, jaUL_o, jaUL_1, jaB_z, jaB_1, ↓jaB_01, Classical.not_not, and_self, true_or, or_true, nI_11, Nat.reduceEqDiff, Nat.reduceAdd, Nat.reduceMul, Nat.add_zero, Nat.zero_add, Nat.mul_zero, not_true_eq_false, not_false_eq_true, false_implies, true_implies])
    refine ⟨fun q1 => hno (fun z => z.2.2.1 q1), fun q1 => ⟨fun q2 => hno (fun z => z.2.2.2.1 q2), fun q2 => ?_⟩⟩
    refine sp_Ck_hasTwin (by omega) (by omega) ?_
    rw [a, b3, k36]
    (try simp (disch := first | omega | decide) only [jaU_eq, jaU_U, nI_add, pk_mul, jaIx_nI, vp_inT, true_and, and_true, ↓jaO0, ↓jaO1, nI_z, nI_z2, nI_z3, nI_z4, nI_z5, nI_lt', nI_le', nI_eq', jaUI_at, jaPt_eq, jaPt_ne, jaUI_o, jaUI_2, jaUL_at, jaUL_o, jaUL_1, jaB_z, jaB_1, ↓jaB_01, Classical.not_not, and_self, true_or, or_true, nI_11, Nat.reduceEqDiff, Nat.reduceAdd, Nat.reduceMul, Nat.add_zero, Nat.zero_add, Nat.mul_zero, not_true_eq_false, not_false_eq_true, false_implies, true_implies])
    refine ⟨fun q3 => hno (fun z => z.2.2.2.2 q3), fun q3 => ?_⟩
    refine h _ ?_ ((jcF.rfl.ui (by decide)).ui (by decide))
    unfold jvTw
    rw [jaIf1_t ⟨rfl, k36, q1, q2, q3⟩]
    have hv := (hR.c 0 (show 0 < jz s 2 by have := hX.1.2.2.1.2.1; omega)).1 q hq
    simp only [Nat.mul_zero, Nat.add_zero] at hv
    have z := jR_tw (x := S.1 51 0 q) hR hX hq k40 k38 k36
    rw [b3, hv] at z
    rw [b3, hv]
    exact z
set_option maxHeartbeats 2000000 in
theorem sp_St_writeGiven {D : Nat} (hD : 3 ≤ D) {kk : jaT → Prop} {σ : jaT} {S : jaS} {s d e v : jvA} {w : Int32} {k c i : Nat} (hR : jR S (s, d, e)) (hX : jX s d e) (hkk : jKk s) (hc : c < jz s 2) (hi : i < jz s 34) (hw : w = e (9 * jz s (41 + i) + 3)) (hv : ∀ q, q < jz s 1 → S.1 42 0 q = v q)
    (h : ∀ S', jR S' (jvPut c i v w s (jz s 1), d, e) → jcE S S' → kk (jaU σ k S')) : jaDe D jy_St_writeGiven [jcSt k, .inl (nI c), .inl (nI i)] (jaU σ k S) (jaKv kk) := by
  obtain ⟨D, rfl, hD⟩ := jaSuc hD
  have h10 := hX.1.2.1.2
  have h3 := hX.1.2.2.1.2.2
  have hO := hX.2.2.2.ord.2
  have hP := hX.2.2.2.pool.2
  obtain ⟨hid, hid'⟩ := hX.2.2.2.id hi
  have hord := (hR.o.2.2.1 i hi).1
  have hwr := (hR.e (jz s (41 + i)) hid').2.2.1
  have hord : S.1 68 0 i = nI (jz s (41 + i)) := hord.trans hid
  have hwr : S.1 63 0 (jz s (41 + i)) = e (9 * jz s (41 + i) + 3) := hwr
  apply js_St_writeGiven
  simp (disch := first | omega | decide) only [jaU_eq, jaU_U, nI_add, pk_mul, jaIx_nI, vp_inT, true_and, and_true, ↓jaO0, ↓jaO1, nI_z, nI_z2, nI_z3, nI_z4, nI_z5, nI_lt', nI_le', nI_eq', jaUI_at, jaPt_eq, jaPt_ne, jaUI_o, jaUI_2, jaUL_at, jaUL_o, jaUL_1, jaB_z, jaB_1, ↓jaB_01, Classical.not_not, and_self, true_or, or_true, nI_11, Nat.reduceEqDiff, Nat.reduceAdd, Nat.reduceMul, Nat.add_zero, Nat.zero_add, Nat.mul_zero, not_true_eq_false, not_false_eq_true, false_implies, true_implies, hord, hwr]
  rw [← hw]
  refine jaFor (C := fun q => ∀ S', jR S' (jvPut c i v w s q, d, e) → S'.1 42 = S.1 42 → jcE S S' → jc_St_writeGiven_1 D kk k (nI c) (nI i) w (nI q) (jaU σ k S')) (N := jz s 1) ?_ (fun q hq ih => ?_) S hR rfl rfl
  · intro S' a b f
    have e1 : S'.1 30 0 1 = nI (jz s 1) := by
      have := a.w.1.2.1
      rw [this]
      show jvPut c i v w s (jz s 1) 1 = _
      rw [jvPut_ne (by decide) _ (by omega) (by omega)]
      exact hX.1.2.1.1
    apply jb_St_writeGiven_1
    simp (disch := first | omega | decide) only [jaU_eq, jaU_U, nI_add, pk_mul, jaIx_nI, vp_inT, true_and, and_true, ↓jaO0, ↓jaO1, nI_z, nI_z2, nI_z3, nI_z4, nI_z5, nI_lt', nI_le', nI_eq', jaUI_at, jaPt_eq, jaPt_ne, jaUI_o, jaUI_2, jaUL_at, jaUL_o, jaUL_1, jaB_z, jaB_1, ↓jaB_01, Classical.not_not, and_self, true_or, or_true, nI_11, Nat.reduceEqDiff, Nat.reduceAdd, Nat.reduceMul, Nat.add_zero, Nat.zero_add, Nat.mul_zero, not_true_eq_false, not_false_eq_true, false_implies, true_implies, e1]
    refine ⟨fun _ => ?_, fun q => absurd (by omega) q⟩
    exact h S' a f
  · intro S' a b f
    rw [jvPut_s] at ih
    have pe : ∀ j, j ≠ 39 → ¬ (145 + 10 * c ≤ j ∧ j < 155 + 10 * c) → ¬ (455 ≤ j ∧ j < 465) → jvPut c i v w s q j = s j := fun j h1 h2 h3 => jvPut_ne h1 q (by omega) (by omega)
    have hXP : jX (jvPut c i v w s q) d e := jX_c (fun j hj => pe j (by omega) (by omega) (by omega)) hX
    have hkP : jKk (jvPut c i v w s q) := jKk_c (pe 36 (by omega) (by omega) (by omega)) (pe 38 (by omega) (by omega) (by omega)) (pe 40 (by omega) (by omega) (by omega)) hkk
    have z1 := jz_c (pe 1 (by omega) (by omega) (by omega))
    have z2 := jz_c (pe 2 (by omega) (by omega) (by omega))
    generalize jvPut c i v w s q = P at *
    have e1 : S'.1 30 0 1 = nI (jz s 1) := by
      have := a.w.1.2.1
      rw [this]
      show P 1 = _
      rw [hXP.1.2.1.1, z1]
    have hgv : S'.1 42 0 q = v q := by rw [b]; exact hv q hq
    apply jb_St_writeGiven_1
    rw [jaBt_u (show q < 32 by omega)]
    simp (disch := first | omega | decide) only [jaU_eq, jaU_U, nI_add, pk_mul, jaIx_nI, vp_inT, true_and, and_true, ↓jaO0, ↓jaO1, nI_z, nI_z2, nI_z3, nI_z4, nI_z5, nI_lt', nI_le', nI_eq', jaUI_at, jaPt_eq, jaPt_ne, jaUI_o, jaUI_2, jaUL_at, jaUL_o, jaUL_1, jaB_z, jaB_1, ↓jaB_01, Classical.not_not, and_self, true_or, or_true, nI_11, Nat.reduceEqDiff, Nat.reduceAdd, Nat.reduceMul, Nat.add_zero, Nat.zero_add, Nat.mul_zero, not_true_eq_false, not_false_eq_true, false_implies, true_implies, e1, hgv]
    refine ⟨fun q => absurd q (by omega), fun _ => ?_⟩
    refine ⟨fun hb => ?_, fun hb => ⟨fun hc0 => ?_, fun hc0 => ?_⟩⟩
    · rw [jaIf1_f hb] at ih
      exact ih S' a b f
    · rw [jaIf1_t hb] at ih
      have ht : jvTw P c i q = P := jaIf1_f (fun z => hc0 z.1)
      rw [ht] at ih
      refine ih _ (jR_val a hXP (by omega) (by omega) hkP.1 hkP.2.1) ?_ (jcE_ui (by decide) f)
      rw [jaUI_o (by decide)]
      exact b
    · subst hc0
      rw [jaIf1_t hb] at ih
      refine sp_Ck_noteWrite (by omega) a hXP hkP (by omega) (fun S2 a2 f2 => ?_)
      have hgv2 : S2.1 42 0 q = v q := by rw [f2.s 42 (by decide)]; exact hgv
      have tn : ∀ j, j ≠ 39 → j ≠ 455 + q → jvTw P 0 i q j = P j := fun j h1 h2 => jvTw_ne h1 h2
      have hXT : jX (jvTw P 0 i q) d e := jX_c (fun j hj => tn j (by omega) (by omega)) hXP
      have t1 := jz_c (tn 1 (by omega) (by omega))
      have t2 := jz_c (tn 2 (by omega) (by omega))
      have t38 := jz_c (tn 38 (by omega) (by omega))
      have t40 := jz_c (tn 40 (by omega) (by omega))
      simp (disch := first | omega | decide) only [jaU_eq, jaU_U, nI_add, pk_mul, jaIx_nI, vp_inT, true_and, and_true, ↓jaO0, ↓jaO1, nI_z, nI_z2, nI_z3, nI_z4, nI_z5, nI_lt', nI_le', nI_eq', jaUI_at, jaPt_eq, jaPt_ne, jaUI_o, jaUI_2, jaUL_at, jaUL_o, jaUL_1, jaB_z, jaB_1, ↓jaB_01, Classical.not_not, and_self, true_or, or_true, nI_11, Nat.reduceEqDiff, Nat.reduceAdd, Nat.reduceMul, Nat.add_zero, Nat.zero_add, Nat.mul_zero, not_true_eq_false, not_false_eq_true, false_implies, true_implies, hgv2]
      refine ih _ (jR_val (c := 0) a2 hXT (by omega) (by omega) (by rw [t40]; exact hkP.1) (by rw [t38]; exact hkP.2.1)) ?_ (jcE_ui (by decide) ((f2.e (by decide)).trans f))
      rw [jaUI_o (by decide), f2.s 42 (by decide)]
      exact b
set_option maxHeartbeats 2000000 in
theorem sp_St_execute {D : Nat} (hD : 4 ≤ D) {kk : jaT → Prop} {σ : jaT} {S : jaS} {s d e : jvA} {k c i : Nat} (hR : jR S (s, d, e)) (hX : jX s d e) (hkk : jKk s) (hc : c < jz s 2) (hi : i < jz s 34)
    (h : ∀ S', jR S' ((jvEx s d e c i).1, d, (jvEx s d e c i).2) → jcE S S' → kk (jaU σ k S')) : jaDe D jy_St_execute [jcSt k, .inl (nI c), .inl (nI i)] (jaU σ k S) (jaKv kk) := by
  obtain ⟨D, rfl, hD⟩ := jaSuc hD
  have h10 := hX.1.2.1.2
  have h3 := hX.1.2.2.1.2.2
  have hO := hX.2.2.2.ord.2
  have hP := hX.2.2.2.pool.2
  have hM := hX.2.2.2.many.2
  obtain ⟨hid, hid'⟩ := hX.2.2.2.id hi
  have hrow := hX.2.2.1 _ hid'
  obtain ⟨⟨hn, hn'⟩, hsite, hfl, hws, hwide⟩ := hX.2.2.1 _ hid'
  have hwn := hX.2.1 _ hn'
  obtain ⟨o1, o2, o3⟩ := hR.o.2.2.1 i hi
  obtain ⟨i1, i2, i3, i4, i5⟩ := hR.e _ hid'
  have hRt := hR.s.2 _ hn'
  have hval := (hR.c c hc).1
  obtain ⟨hK, hK'⟩ := hX.1.2.1
  have o1 : S.1 68 0 i = nI (jz s (41 + i)) := o1.trans hid
  have o2 : S.1 65 0 (jz s (41 + i)) = s (415 + i) := o2
  have i1 : S.1 61 0 (jz s (41 + i)) = nI (jz e (9 * jz s (41 + i))) := i1.trans hn
  have w1 : S.1 30 0 1 = nI (jz s 1) := hR.w.1.2.1.trans hK
  have hII2 : jvId s i = jz s (41 + i) := rfl
  have hrange := hX.2.2.2.2.2.2.2.2.2.2.2.2.2.2 i (by omega)
  apply js_St_execute
  simp (disch := first | omega | decide) only [jaU_eq, jaU_U, nI_add, pk_mul, jaIx_nI, vp_inT, true_and, and_true, ↓jaO0, ↓jaO1, nI_z, nI_z2, nI_z3, nI_z4, nI_z5, nI_lt', nI_le', nI_eq', jaUI_at, jaPt_eq, jaPt_ne, jaUI_o, jaUI_2, jaUL_at, jaUL_o, jaUL_1, jaB_z, jaB_1, ↓jaB_01, Classical.not_not, and_self, true_or, or_true, nI_11, Nat.reduceEqDiff, Nat.reduceAdd, Nat.reduceMul, Nat.add_zero, Nat.zero_add, Nat.mul_zero, not_true_eq_false, not_false_eq_true, false_implies, true_implies, o1, i1, w1]
  rw [show jz s (41 + i) * 4 = 4 * jz s (41 + i) by omega]
  refine sp_Sc_run_51 (R := fun q => s (145 + 10 * c + q)) (e := e) (d := d) (by omega) hRt (by omega) hwn hK' (by omega) hn i5 hfl hval ?_
  intro S1 f1 hg1
  have hR1 : jR S1 (s, d, e) := jR_S (fun o a b c => f1.s o (by simp [a])) hR
  have hgw := fun v w hg => jvGo_w (row := fun q => s (145 + 10 * c + q)) (k := nI (jz s 1)) (v := v) (w := w) hrow hwn hg
  have hh := jvGo_how (row := fun k => s (145 + 10 * c + k)) (d := d) (e := e) (k := nI (jz s 1)) (id := jz s (41 + i))
  generalize hG : jvGo (fun k => s (145 + 10 * c + k)) d e (nI (jz s 1)) (jz s (41 + i)) = g at *
  obtain ⟨how, v, w⟩ := g
  have hEx := jvEx_eq (s := s) (d := d) (e := e) (c := c) (i := i) (how := how) (v := v) (w := w) (by rw [hK, hII2]; exact hG)
  rw [hEx, hII2] at h
  simp only [] at hh
  have hv1 : ¬ how = nI 1 := by
    rcases hh with q | q | q <;> rw [q] <;> decide
  have hR2 := jR_how (v := how) hR1 hX hc hi hkk.1 hkk.2.1 hv1
  have hX2 : jX (jvE1 s c i how) d e := jX_c (fun j hj => jvE1_ne (by omega) (by omega)) hX
  have hE : ∀ j, j ≠ 175 + 40 * c + i → j ≠ 295 + 40 * c + i → jvE1 s c i how j = s j := fun j a b => jvE1_ne a b
  have hkk2 : jKk (jvE1 s c i how) := jKk_c (hE 36 (by omega) (by omega)) (hE 38 (by omega) (by omega)) (hE 40 (by omega) (by omega)) hkk
  simp (disch := first | omega | decide) only [jaU_eq, jaU_U, nI_add, pk_mul, jaIx_nI, vp_inT, true_and, and_true, ↓jaO0, ↓jaO1, nI_z, nI_z2, nI_z3, nI_z4, nI_z5, nI_lt', nI_le', nI_eq', jaUI_at, jaPt_eq, jaPt_ne, jaUI_o, jaUI_2, jaUL_at, jaUL_o, jaUL_1, jaB_z, jaB_1, ↓jaB_01, Classical.not_not, and_self, true_or, or_true, nI_11, Nat.reduceEqDiff, Nat.reduceAdd, Nat.reduceMul, Nat.add_zero, Nat.zero_add, Nat.mul_zero, not_true_eq_false, not_false_eq_true, false_implies, true_implies]
  refine ⟨fun q => ⟨fun q2 => ?_, fun q2 => ⟨fun q3 => ?_, fun q3 => ?_⟩⟩, fun q => ?_⟩
  · rw [jaIf1_f (fun x => q2 x.1), jaIf1_f q] at h
    exact h _ hR2 (jcE_ui (by decide) (f1.e (by decide)))
  · rw [jaIf1_f (fun x => q3 x.2.1), jaIf1_f q] at h
    exact h _ hR2 (jcE_ui (by decide) (f1.e (by decide)))
  · subst q3
    have o2' : S1.1 65 0 (jz s (41 + i)) = s (415 + i) := by rw [f1.s 65 (by decide)]; exact o2
    simp (disch := first | omega | decide) only [jaU_eq, jaU_U, nI_add, pk_mul, jaIx_nI, vp_inT, true_and, and_true, ↓jaO0, ↓jaO1, nI_z, nI_z2, nI_z3, nI_z4, nI_z5, nI_lt', nI_le', nI_eq', jaUI_at, jaPt_eq, jaPt_ne, jaUI_o, jaUI_2, jaUL_at, jaUL_o, jaUL_1, jaB_z, jaB_1, ↓jaB_01, Classical.not_not, and_self, true_or, or_true, nI_11, Nat.reduceEqDiff, Nat.reduceAdd, Nat.reduceMul, Nat.add_zero, Nat.zero_add, Nat.mul_zero, not_true_eq_false, not_false_eq_true, false_implies, true_implies, o2']
    rw [jaIf1_f q] at h
    refine ⟨fun q4 => ?_, fun q4 => ?_⟩
    · have hs1 : s (415 + i) = nI 1 := hrange.1.resolve_left (fun z => q4 (by rw [z]; decide))
      rw [jaIf1_f (fun x => x.2.2 hs1)] at h
      exact h _ hR2 (jcE_ui (by decide) (f1.e (by decide)))
    · have hs0 : ¬ s (415 + i) = nI 1 := fun z => by
        rw [z] at q4
        exact absurd q4 (by decide)
      rw [jaIf1_t ⟨q2, rfl, hs0⟩] at h
      have hag := jvEx_again hX hi hs0 how
      have z41 : jz (jvE1 s 0 i how) (41 + i) = jz s (41 + i) := jz_c (hE _ (by omega) (by omega))
      have hR3 := jR_again hR2 hX2 (i := i) (by rw [jz_c (hE 34 (by omega) (by omega))]; exact hi) hkk2.1 hkk2.2.1
      rw [z41] at hR3
      have pe : ∀ j, j < 175 ∨ 455 ≤ j → jaPt (jvE1 s 0 i how) (415 + i) (nI 1) j = s j := fun j hj => by rw [jaPt_ne (by omega), hE _ (by omega) (by omega)]
      have hXp : jWw (jaPt (jvE1 s 0 i how) (415 + i) (nI 1)) := jWw_c (fun j hj => pe j (by omega)) hX.1
      have hXd : jWd (jaPt (jvE1 s 0 i how) (415 + i) (nI 1)) d := jWd_c (pe 1 (by omega)) (pe 32 (by omega)) hX.2.1
      have hXe : jWe (jaPt (jvE1 s 0 i how) (415 + i) (nI 1)) d e := jWe_c (pe 1 (by omega)) (pe 32 (by omega)) (pe 33 (by omega)) hX.2.2.1
      generalize jaPt (jvE1 s 0 i how) (415 + i) (nI 1) = p at *
      have hcame := hX.2.2.2.2.2.2.2.1
      refine sp_St_arriveEntry (by omega) hR3 hXp hXd hXe (by rw [jz_c (pe 32 (by omega))]; exact hn') (by rw [jz_c (pe 32 (by omega))]; omega) (by rw [jz_c (pe 33 (by omega)), pe 33 (by omega)]; exact hX.2.2.2.pool.1) (by rw [jz_c (pe 33 (by omega))]; exact hag.2) (by rw [jz_c (pe 34 (by omega))]; exact hO) (by rw [jz_c (pe 35 (by omega)), pe 35 (by omega)]; exact hX.2.2.2.came.1) (by rw [jz_c (pe 35 (by omega))]; have := hX.2.2.2.2.2.2.2.1; omega)
        (fun j hj => by
          rw [jz_c (pe 34 (by omega))] at hj
          rw [jz_c (pe (41 + j) (by omega)), jz_c (pe 33 (by omega))]
          exact (hX.2.2.2.id hj).2)
        (fun j hj => by
          have h35 := hX.2.2.2.came.2
          rw [jz_c (pe 35 (by omega))] at hj
          rw [jz_c (pe (81 + j) (by omega)), jz_c (pe 33 (by omega))]
          exact (hX.2.2.2.come hj).2)
        (fun S' a b => h S' a (b.trans (jcE_ui (by decide) (jcE_ui (by decide) (f1.e (by decide))))))
  · have hq : how = nI 2 := q
    have hww := hgw v w (by rw [hq])
    rw [jaIf1_f (fun x => by rw [hq] at x; exact absurd x.1 (by decide)), jaIf1_t hq] at h
    have z41 : jz (jvE1 s c i how) (41 + i) = jz s (41 + i) := jz_c (hE _ (by omega) (by omega))
    have z1 : jz (jvE1 s c i how) 1 = jz s 1 := jz_c (hE _ (by omega) (by omega))
    refine sp_St_writeGiven (v := v) (w := w) (by omega) hR2 hX2 hkk2 (by rw [jz_c (hE 2 (by omega) (by omega))]; exact hc) (by rw [jz_c (hE 34 (by omega) (by omega))]; exact hi) (by rw [z41]; exact hww) (fun q0 hq0 => ?_) (fun S' a b => ?_)
    · rw [z1] at hq0
      rw [jaUI_o (by decide)]
      exact hg1 v w (by rw [hq]) q0 hq0
    · rw [z1] at a
      refine ⟨fun _ => h S' a (b.trans (jcE_ui (by decide) (f1.e (by decide)))), fun q2 => ?_⟩
      rw [hq] at q2
      exact absurd q2 (by decide)
end
