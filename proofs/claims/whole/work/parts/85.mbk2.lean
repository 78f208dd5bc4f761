section
/-! the reference: book -/
set_option maxHeartbeats 2000000 in
theorem jm_bk {D : Nat} (hD : 5 ≤ D) {kk : Int32 → jaT → Prop} {σ : jaT} {S : jaS} {X : jtX} {nm : Nat → Nat} {n0 n2 : Nat} {x1 : Int32} (h03 : n0 ≤ 3) (h23 : n2 ≤ 3) (h21 : 1 ≤ n2) (h13 : nm 13 = 0 → n2 = 1) : ∀ m cnt i ls S1, cnt + m = 41 → 1 ≤ m → jmN S1 X i → jbE S1 nm n0 n2 → S1.1 70 0 41 = nI cnt → (∀ j, j < cnt → jbM (S1.1 74 0) j (ls j)) → jaFr [74] (41 :: jmG) S S1 →
    (∀ ls' n, jbAll X nm n0 n2 m ls cnt i = .inr (ls', n) → ∀ S', S'.1 70 0 18 = nI 0 → S'.1 70 0 41 = nI n → (∀ j, j < n → jbM (S'.1 74 0) j (ls' j)) → jaFr [74] (41 :: jmG) S S' → jaDe D jy_M_tries [jaMo] (jaU σ 20 S') (jaKv fun σ1 => jc_M_book_6 D kk x1 (nI 0) σ1)) →
    (∀ c p, jbAll X nm n0 n2 m ls cnt i = .inl (c, p) → ∀ S', jmFl S' X c p → jaFr [74] (41 :: jmG) S S' → kk ((-2) - nI (jtAt X p)) (jaU σ 20 S')) →
    jc_M_book_2 D kk x1 (jaU σ 20 S1) := by
  intro m
  induction m with
  | zero => intro cnt i ls S1 _ h1; exact absurd h1 (by omega)
  | succ m ih =>
    intro cnt i ls S1 hm _ hR hE h41 hl f h h0
    have ht := jtTc_lt (K := jtK X i)
    have e14 := hR.1.2.2.2.2.2.1
    rw [jbAll] at h h0
    apply jb_M_book_2
    simp (disch := first | omega | decide) only [jaU_eq, jaU_U, nI_add, pk_mul, jaIx_nI, vp_inT, true_and, and_true, ↓jaO0, ↓jaO1, nI_z, nI_z2, nI_z3, nI_z4, nI_z5, nI_lt', nI_le', nI_eq', jaUI_at, jaPt_eq, jaPt_ne, jaUI_o, jaUI_2, jaUL_at, jaUL_o, jaUL_1, jaB_z, jaB_1, ↓jaB_01, Classical.not_not, and_self, true_or, or_true, nI_11, Nat.reduceEqDiff, Nat.reduceAdd, Nat.reduceMul, Nat.add_zero, Nat.zero_add, Nat.mul_zero, not_true_eq_false, not_false_eq_true, false_implies, true_implies, e14]
    rw [jtTc_0]
    refine ⟨fun q => ?_, fun q => ?_⟩
    · rw [jaIf1_t q] at h
      exact h ls cnt rfl S1 hR.1.1.2.2.2.2 h41 hl f
    · rw [jaIf1_f q] at h h0
      refine sp_M_bookLine (nm := nm) (i := i) (X := X) (cnt := cnt) (by omega) hR hE h03 h23 h21 h13 h41 (by omega) (fun y i' e S2 a2 b2 c2 f2 => ?_) (fun c p e S2 a2 f2 => ?_)
      · rw [jwB_i e] at h h0
        have n40 := (jbLine_r h03 h23 e).2
        have z41 : S2.1 70 0 41 = nI cnt := by rw [f2.f 41 (by decide)]; exact h41
        refine ⟨fun z => absurd z (by decide), fun _ => ?_⟩
        refine sp_M_sign (by omega) a2 (by omega) (by decide) (fun q2 S3 a3 f3 => ?_) (fun q2 S3 a3 f3 => ?_)
        · rw [jaIf1_t q2] at h h0
          refine ⟨fun _ => ?_, fun z => absurd z (by decide)⟩
          have z41' : S3.1 70 0 41 = nI cnt := by rw [f3.f 41 (by decide)]; exact z41
          simp (disch := first | omega | decide) only [jaU_eq, jaU_U, nI_add, pk_mul, jaIx_nI, vp_inT, true_and, and_true, ↓jaO0, ↓jaO1, nI_z, nI_z2, nI_z3, nI_z4, nI_z5, nI_lt', nI_le', nI_eq', jaUI_at, jaPt_eq, jaPt_ne, jaUI_o, jaUI_2, jaUL_at, jaUL_o, jaUL_1, jaB_z, jaB_1, ↓jaB_01, Classical.not_not, and_self, true_or, or_true, nI_11, Nat.reduceEqDiff, Nat.reduceAdd, Nat.reduceMul, Nat.add_zero, Nat.zero_add, Nat.mul_zero, not_true_eq_false, not_false_eq_true, false_implies, true_implies, z41']
          have f4 : jaFr [74] [41] S3 (jaUI S3 70 0 41 (nI (cnt + 1))) := jaFr.rfl.uf (by decide)
          have F : jaFr [74] (41 :: jmG) S1 (jaUI S3 70 0 41 (nI (cnt + 1))) := (f2.mono (by decide) (by decide)).trans ((f3.mono (by decide) (by decide)).trans (f4.mono (by decide) (by decide)))
          refine ih (cnt + 1) (i' + 1) (jbUp ls cnt y) _ (by omega) (by omega) (a3.f f4 (by decide) (by decide) (by decide)) (hE.f F (by decide) (by decide)) (by simp (disch := first | omega | decide) only [jaU_eq, jaU_U, nI_add, pk_mul, jaIx_nI, vp_inT, true_and, and_true, ↓jaO0, ↓jaO1, nI_z, nI_z2, nI_z3, nI_z4, nI_z5, nI_lt', nI_le', nI_eq', jaUI_at, jaPt_eq, jaPt_ne, jaUI_o, jaUI_2, jaUL_at, jaUL_o, jaUL_1, jaB_z, jaB_1, ↓jaB_01, Classical.not_not, and_self, true_or, or_true, nI_11, Nat.reduceEqDiff, Nat.reduceAdd, Nat.reduceMul, Nat.add_zero, Nat.zero_add, Nat.mul_zero, not_true_eq_false, not_false_eq_true, false_implies, true_implies]) (fun j hj => ?_) (f.trans F) h h0
          rw [jaUI_o (by decide), f3.s 74 (by decide) (by decide)]
          unfold jbUp
          by_cases z : j = cnt
          · rw [if_pos z, z]; exact b2
          · rw [if_neg z]
            obtain ⟨g1, g2, g3⟩ := hl j (by omega)
            refine ⟨?_, fun y1 => ?_, fun y1 => ?_⟩
            · rw [c2 _ (by omega)]; exact g1
            · rw [c2 _ (by omega)]; exact g2 y1
            · rw [c2 _ (by omega)]; exact g3 y1
        · rw [jaIf1_f q2] at h0
          refine ⟨fun z => absurd rfl z, fun _ => ?_⟩
          have e19 := a3.2
          simp (disch := first | omega | decide) only [jaU_eq, jaU_U, nI_add, pk_mul, jaIx_nI, vp_inT, true_and, and_true, ↓jaO0, ↓jaO1, nI_z, nI_z2, nI_z3, nI_z4, nI_z5, nI_lt', nI_le', nI_eq', jaUI_at, jaPt_eq, jaPt_ne, jaUI_o, jaUI_2, jaUL_at, jaUL_o, jaUL_1, jaB_z, jaB_1, ↓jaB_01, Classical.not_not, and_self, true_or, or_true, nI_11, Nat.reduceEqDiff, Nat.reduceAdd, Nat.reduceMul, Nat.add_zero, Nat.zero_add, Nat.mul_zero, not_true_eq_false, not_false_eq_true, false_implies, true_implies, e19]
          exact h0 1 i' rfl S3 a3 (f.trans ((f2.mono (by decide) (by decide)).trans (f3.mono (by decide) (by decide))))
      · rw [jwB_l e] at h0
        refine ⟨fun _ => ?_, fun z => absurd rfl z⟩
        have e19 := a2.2
        simp (disch := first | omega | decide) only [jaU_eq, jaU_U, nI_add, pk_mul, jaIx_nI, vp_inT, true_and, and_true, ↓jaO0, ↓jaO1, nI_z, nI_z2, nI_z3, nI_z4, nI_z5, nI_lt', nI_le', nI_eq', jaUI_at, jaPt_eq, jaPt_ne, jaUI_o, jaUI_2, jaUL_at, jaUL_o, jaUL_1, jaB_z, jaB_1, ↓jaB_01, Classical.not_not, and_self, true_or, or_true, nI_11, Nat.reduceEqDiff, Nat.reduceAdd, Nat.reduceMul, Nat.add_zero, Nat.zero_add, Nat.mul_zero, not_true_eq_false, not_false_eq_true, false_implies, true_implies, e19]
        exact h0 c p rfl S2 a2 (f.trans (f2.mono (by decide) (by decide)))
def jbT (S : jaS) (y : Int32 × Nat × jvX) : Prop := S.1 88 0 0 = y.1 ∧ S.1 88 0 1 = nI y.2.1 ∧ S.1 88 0 2 = y.2.2.1 31 ∧ S.1 88 0 3 = y.2.2.1 34 ∧ S.1 70 0 43 = nI 1
abbrev jbK : List Nat := [0, 2, 3, 5, 41, 4, 14, 15, 16, 17, 18, 19, 20, 21]
abbrev jbG : List Nat := [0, 2, 3, 5, 29, 33, 41, 43, 4, 14, 15, 16, 17, 18, 19, 20, 21]
abbrev jbH : List Nat := [72, 74, 75, 76, 80, 82, 83, 84, 88]
set_option maxHeartbeats 8000000 in
theorem sp_M_book {D : Nat} (hD : 10 ≤ D) {kk : Int32 → jaT → Prop} {σ : jaT} {S : jaS} {X : jtX} {nm : Nat → Nat} {x : jvX} {uu : jvA} {m : Nat} {x1 : Int32} {ls0 : Nat → jbY} (hn2 : S.1 70 0 2 = nI X.2.1) (hl : X.2.1 ≤ 940) (hlim : X.2.2 = 400) (hX : ∀ q, X.1 q < 256) (ht : ∀ j, j < 940 → S.1 71 0 j &&& nI 255 = nI (X.1 j)) (hv : jmV S)
    (hE : jbE S nm (jz x.1 0) (jz x.1 2)) (h13 : nm 13 = 0 → jz x.1 2 = 1) (hs : S.1 72 0 = x.1) (hd : S.1 75 0 = x.2.1) (he : S.1 76 0 = x.2.2) (hW : jW3 x) (htk : jz x.1 31 ≤ 1000) (hm : S.1 70 0 33 = nI m) (hm8 : m ≤ 8) (hu : S.1 83 0 = uu)
    (h1 : (¬ ∃ v, v < 2 ∧ x1 = nI v) → ∀ S', jaFr [] [0] S S' → kk (-1000) (jaU σ 20 S'))
    (h2 : (∃ v, v < 2 ∧ x1 = nI v) → ∀ c p, jbAll X nm (jz x.1 0) (jz x.1 2) 41 ls0 0 0 = .inl (c, p) → ∀ S', jmFl S' X c p → S'.1 70 0 2 = nI 0 → jaFr [74] jbK S S' → kk ((-2) - nI (jtAt X p)) (jaU σ 20 S'))
    (h3 : ∀ v, v < 2 → x1 = nI v → ∀ ls n, jbAll X nm (jz x.1 0) (jz x.1 2) 41 ls0 0 0 = .inr (ls, n) → ∀ S', jbT S' (jbGo ls n 0 x) → S'.1 72 0 = (if v = 0 then x.1 else (jbGo ls n 0 x).2.2.1) → S'.1 75 0 = (jbGo ls n 0 x).2.2.2.1 → S'.1 76 0 = (jbGo ls n 0 x).2.2.2.2 → S'.1 83 0 = (if v = 1 ∧ 0 < (jbGo ls n 0 x).2.1 then jvSt x.1 uu m else uu) → S'.1 70 0 33 = nI (if v = 1 ∧ 0 < (jbGo ls n 0 x).2.1 then jvStM m else m) → S'.1 70 0 2 = nI 0 → S'.1 70 0 18 = nI 0 → jaFr jbH jbG S S' → kk (if (jbGo ls n 0 x).1 = nI 0 then -1 else nI (jbGo ls n 0 x).2.1) (jaU σ 20 S')) :
    jaDe D jy_M_book [jaMo, .inl x1] (jaU σ 20 S) (jaKi kk) := by
  have h03 := hW.w.1.2
  have h21 := hW.w.2.2.1.2.1
  have h23 := hW.w.2.2.1.2.2
  obtain ⟨D, rfl, hD⟩ := jaSuc hD
  apply js_M_book
  simp only [jaU_eq, jaU_U]
  have f0 : jaFr [] [0] S (jaUI S 70 0 0 (nI 0)) := jaFr.rfl.uf (by decide)
  refine sp_M_isIn (by omega) ?_
  rw [show (¬ x1 < nI 0 ∧ ¬ nI 1 < x1) = (∃ v, v < 2 ∧ x1 = nI v) from propext (by
    have := jxIn (N := 2) (by decide) (x := x1)
    rw [nI_sub (by decide)] at this
    exact this)]
  simp (disch := first | omega | decide) only [jaU_eq, jaU_U, nI_add, pk_mul, jaIx_nI, vp_inT, true_and, and_true, ↓jaO0, ↓jaO1, nI_z, nI_z2, nI_z3, nI_z4, nI_z5, nI_lt', nI_le', nI_eq', jaUI_at, jaPt_eq, jaPt_ne, jaUI_o, jaUI_2, jaUL_at, jaUL_o, jaUL_1, jaB_z, jaB_1, ↓jaB_01, Classical.not_not, and_self, true_or, or_true, nI_11, Nat.reduceEqDiff, Nat.reduceAdd, Nat.reduceMul, Nat.add_zero, Nat.zero_add, Nat.mul_zero, not_true_eq_false, not_false_eq_true, false_implies, true_implies]
  refine ⟨fun q => ?_, fun q => h1 q _ f0⟩
  have h2 := h2 q
  obtain ⟨v, hv2, hx1⟩ := q
  have h3 := h3 v hv2 hx1
  refine sp_M_taken (n := X.2.1) (by omega) (by simp (disch := first | omega | decide) only [jaU_eq, jaU_U, nI_add, pk_mul, jaIx_nI, vp_inT, true_and, and_true, ↓jaO0, ↓jaO1, nI_z, nI_z2, nI_z3, nI_z4, nI_z5, nI_lt', nI_le', nI_eq', jaUI_at, jaPt_eq, jaPt_ne, jaUI_o, jaUI_2, jaUL_at, jaUL_o, jaUL_1, jaB_z, jaB_1, ↓jaB_01, Classical.not_not, and_self, true_or, or_true, nI_11, Nat.reduceEqDiff, Nat.reduceAdd, Nat.reduceMul, Nat.add_zero, Nat.zero_add, Nat.mul_zero, not_true_eq_false, not_false_eq_true, false_implies, true_implies, hn2]) (fun S1 t3 t2 t4 t5 f1 => ?_)
  simp (disch := first | omega | decide) only [jaU_eq, jaU_U, nI_add, pk_mul, jaIx_nI, vp_inT, true_and, and_true, ↓jaO0, ↓jaO1, nI_z, nI_z2, nI_z3, nI_z4, nI_z5, nI_lt', nI_le', nI_eq', jaUI_at, jaPt_eq, jaPt_ne, jaUI_o, jaUI_2, jaUL_at, jaUL_o, jaUL_1, jaB_z, jaB_1, ↓jaB_01, Classical.not_not, and_self, true_or, or_true, nI_11, Nat.reduceEqDiff, Nat.reduceAdd, Nat.reduceMul, Nat.add_zero, Nat.zero_add, Nat.mul_zero, not_true_eq_false, not_false_eq_true, false_implies, true_implies]
  have f2 : jaFr [] [18, 41] S1 (jaUI (jaUI S1 70 0 18 (nI 0)) 70 0 41 (nI 0)) := (jaFr.rfl.uf (by decide)).uf (by decide)
  have F2 : jaFr [74] jbG S (jaUI (jaUI S1 70 0 18 (nI 0)) 70 0 41 (nI 0)) := (f0.mono (by decide) (by decide)).trans ((f1.mono (by decide) (by decide)).trans (f2.mono (by decide) (by decide)))
  have z18 : (jaUI (jaUI S1 70 0 18 (nI 0)) 70 0 41 (nI 0)).1 70 0 18 = nI 0 := by simp (disch := first | omega | decide) only [jaU_eq, jaU_U, nI_add, pk_mul, jaIx_nI, vp_inT, true_and, and_true, ↓jaO0, ↓jaO1, nI_z, nI_z2, nI_z3, nI_z4, nI_z5, nI_lt', nI_le', nI_eq', jaUI_at, jaPt_eq, jaPt_ne, jaUI_o, jaUI_2, jaUL_at, jaUL_o, jaUL_1, jaB_z, jaB_1, ↓jaB_01, Classical.not_not, and_self, true_or, or_true, nI_11, Nat.reduceEqDiff, Nat.reduceAdd, Nat.reduceMul, Nat.add_zero, Nat.zero_add, Nat.mul_zero, not_true_eq_false, not_false_eq_true, false_implies, true_implies]
  have z41 : (jaUI (jaUI S1 70 0 18 (nI 0)) 70 0 41 (nI 0)).1 70 0 41 = nI 0 := by simp (disch := first | omega | decide) only [jaU_eq, jaU_U, nI_add, pk_mul, jaIx_nI, vp_inT, true_and, and_true, ↓jaO0, ↓jaO1, nI_z, nI_z2, nI_z3, nI_z4, nI_z5, nI_lt', nI_le', nI_eq', jaUI_at, jaPt_eq, jaPt_ne, jaUI_o, jaUI_2, jaUL_at, jaUL_o, jaUL_1, jaB_z, jaB_1, ↓jaB_01, Classical.not_not, and_self, true_or, or_true, nI_11, Nat.reduceEqDiff, Nat.reduceAdd, Nat.reduceMul, Nat.add_zero, Nat.zero_add, Nat.mul_zero, not_true_eq_false, not_false_eq_true, false_implies, true_implies]
  generalize jaUI (jaUI S1 70 0 18 (nI 0)) 70 0 41 (nI 0) = S2 at *
  have T2 : jmT S2 X := ⟨fun j hj => by rw [F2.s 71 (by decide) (by decide)]; exact ht j hj, by rw [f2.f 3 (by decide)]; exact t3, by rw [f2.f 5 (by decide), t5, hlim], by omega, z18⟩
  refine sp_M_next (i := 0) (by omega) T2 hX hl (by rw [f2.f 4 (by decide), t4]; rfl) (Nat.zero_le _) (fun S3 a3 f3 => ?_)
  have F3 : jaFr [74] jbG S S3 := F2.trans (f3.mono (by decide) (by decide))
  have F2k : jaFr [74] jbK S S2 := (f0.mono (by decide) (by decide)).trans ((f1.mono (by decide) (by decide)).trans (f2.mono (by decide) (by decide)))
  have F3k : jaFr [74] jbK S S3 := F2k.trans (f3.mono (by decide) (by decide))
  have V3 : jmV S3 := jmR.w hv (F3.l 79 (by decide) (by decide))
  have z2 : ∀ S', jaFr [74] (41 :: jmG) S3 S' → S'.1 70 0 2 = nI 0 := fun S' f => by
    rw [f.f 2 (by decide), f3.f 2 (by decide), f2.f 2 (by decide)]; exact t2
  refine jm_bk (S := S3) (nm := nm) (X := X) (n0 := jz x.1 0) (n2 := jz x.1 2) (by omega) h03 h23 h21 h13 41 0 0 ls0 S3 rfl (by omega) ⟨a3, V3⟩ (hE.f F3 (by decide) (by decide)) (by rw [f3.f 41 (by decide)]; exact z41) (fun j hj => absurd hj (by omega)) jaFr.rfl (fun ls n e1 S4 b18 b41 b74 f4 => ?_) (fun c p e1 S4 a4 f4 => h2 c p e1 S4 a4 (z2 S4 f4) (F3k.trans (f4.mono (by decide) (by decide))))
  have h3 := h3 ls n e1
  obtain ⟨n40, hls⟩ := jbAll_r h03 h23 41 ls0 0 0 rfl e1 (fun j hj => absurd hj (by omega))
  have F4 : jaFr jbH jbG S S4 := (F3.mono (by decide) (by decide)).trans (f4.mono (by decide) (by decide))
  have z4 := z2 S4 f4
  have F34 : jaFr [74] jbG S S4 := F3.trans (f4.mono (by decide) (by decide))
  have s4 : S4.1 72 0 = x.1 := by rw [F34.s 72 (by decide) (by decide)]; exact hs
  have d4 : S4.1 75 0 = x.2.1 := by rw [F34.s 75 (by decide) (by decide)]; exact hd
  have e4 : S4.1 76 0 = x.2.2 := by rw [F34.s 76 (by decide) (by decide)]; exact he
  have u4 : S4.1 83 0 = uu := by rw [F34.s 83 (by decide) (by decide)]; exact hu
  have m4 : S4.1 70 0 33 = nI m := by
    rw [f4.f 33 (by decide), f3.f 33 (by decide), f2.f 33 (by decide), f1.f 33 (by decide), f0.f 33 (by decide)]; exact hm
  refine sp_M_tries (s := x.1) (b := S4.1 84 0) (by omega) s4 rfl (fun S5 a5 f5 => ?_)
  have hbf : ∀ i, i < 494 → S5.1 84 0 i = x.1 (31 + i) := fun i hi => by
    rw [a5]
    have := jvCp_in (f := S4.1 84 0) (a := 0) (g := x.1) (b := 31) (n := 494) hi
    rw [Nat.zero_add] at this
    exact this
  have F5 : jaFr jbH jbG S S5 := F4.trans (f5.mono (by decide) (by decide))
  -- what was told is gone
  refine jaFor (C := fun k => ∀ S', jaFr [88] [] S5 S' → (∀ j, j < k → S'.1 88 0 j = nI 0) → jc_M_book_6 D kk x1 (nI k) (jaU σ 20 S')) (N := 4) ?_ (fun k hk ih => ?_) S5 jaFr.rfl (fun j hj => absurd hj (by omega))
  · intro S6 f6 z88
    apply jb_M_book_6
    simp (disch := first | omega | decide) only [jaU_eq, jaU_U, nI_add, pk_mul, jaIx_nI, vp_inT, true_and, and_true, ↓jaO0, ↓jaO1, nI_z, nI_z2, nI_z3, nI_z4, nI_z5, nI_lt', nI_le', nI_eq', jaUI_at, jaPt_eq, jaPt_ne, jaUI_o, jaUI_2, jaUL_at, jaUL_o, jaUL_1, jaB_z, jaB_1, ↓jaB_01, Classical.not_not, and_self, true_or, or_true, nI_11, Nat.reduceEqDiff, Nat.reduceAdd, Nat.reduceMul, Nat.add_zero, Nat.zero_add, Nat.mul_zero, not_true_eq_false, not_false_eq_true, false_implies, true_implies]
    refine ⟨fun _ => ?_, fun q => absurd (by omega) q⟩
    have hGo : ∀ why lived xe, jbGo ls n 0 x = (why, lived, xe) → jW3 xe ∧ jK3 x xe ∧ jz xe.1 31 ≤ 1000 ∧ lived ≤ n ∧ ∃ w, w ≤ 31 ∧ why = nI w := by
      intro why lived xe e
      obtain ⟨g1, g2, g3, g4, g5, g6⟩ := jbGo_W (ls := ls) n 0 x hW htk (fun j _ hj => hls j (by omega))
      rw [e] at g1 g2 g3 g5 g6
      exact ⟨g1, g2, g3, by have g5 : lived ≤ 0 + n := g5; omega, g6⟩
    -- the end
    have E8 : ∀ why lived xe i x2 S7, jbGo ls n 0 x = (why, lived, xe) → x2 = (if why = nI 0 then -1 else nI lived) → (n ≤ i ∨ 0 ≤ x2) → i ≤ 41 → S7.1 72 0 = xe.1 → S7.1 75 0 = xe.2.1 → S7.1 76 0 = xe.2.2 → S7.1 88 0 0 = why → S7.1 88 0 1 = nI lived → jaFr [72, 75, 76, 80, 82, 88] [29] S5 S7 → jc_M_book_8 D kk x1 x2 (nI i) (jaU σ 20 S7) := by
      intro why lived xe i x2 S7 eg ex hend hi7 s7 d7 e7 w7 l7 f7
      obtain ⟨g1, g2, g3, g4, w, gw, rfl⟩ := hGo why lived xe eg
      have c41 : S7.1 70 0 41 = nI n := by rw [f7.f 41 (by decide), f5.f 41 List.not_mem_nil]; exact b41
      have F7 : jaFr jbH jbG S S7 := F5.trans (f7.mono (by decide) (by decide))
      have z7 : S7.1 70 0 2 = nI 0 := by rw [f7.f 2 (by decide), f5.f 2 List.not_mem_nil]; exact z4
      have z187 : S7.1 70 0 18 = nI 0 := by rw [f7.f 18 (by decide), f5.f 18 List.not_mem_nil]; exact b18
      have u7 : S7.1 83 0 = uu := by rw [f7.s 83 (by decide) (by decide), f5.s 83 (by decide) (by decide)]; exact u4
      have m7 : S7.1 70 0 33 = nI m := by rw [f7.f 33 (by decide), f5.f 33 List.not_mem_nil]; exact m4
      have bf7 : S7.1 84 0 = S5.1 84 0 := congrFun (f7.s 84 (by decide) (by decide)) 0
      rw [eg] at h3
      apply jb_M_book_8
      have T : ∀ S8 : jaS, S8 = jaUI (jaUI (jaUI S7 88 0 2 (xe.1 31)) 88 0 3 (xe.1 34)) 70 0 43 (nI 1) → (¬ x1 = nI 1 → (¬ x1 = 0 → kk x2 (jaU σ 20 S8)) ∧ (x1 = 0 → jaDe D jy_M_brings [jaMo] (jaU σ 20 S8) (jaKv fun σ4 => kk x2 σ4))) ∧ (x1 = nI 1 → (lived = 0 → (¬ x1 = 0 → kk x2 (jaU σ 20 S8)) ∧ (x1 = 0 → jaDe D jy_M_brings [jaMo] (jaU σ 20 S8) (jaKv fun σ5 => kk x2 σ5))) ∧ (¬ lived = 0 → jaDe D jy_M_stores [jaMo] (jaU σ 20 S8) (jaKv fun σ6 => jc_M_book_12 D kk x1 x2 (nI 0) σ6))) := by
        intro S8 hS8
        have f8 : jaFr [88] [43] S7 S8 := by
          rw [hS8]
          exact ((jaFr.rfl.ui (by decide) (by decide)).ui (by decide) (by decide)).uf (by decide)
        have T8 : jbT S8 (nI w, lived, xe) := by
          rw [hS8]
          refine ⟨?_, ?_, ?_, ?_, ?_⟩
          · simp (disch := first | omega | decide) only [jaU_eq, jaU_U, nI_add, pk_mul, jaIx_nI, vp_inT, true_and, and_true, ↓jaO0, ↓jaO1, nI_z, nI_z2, nI_z3, nI_z4, nI_z5, nI_lt', nI_le', nI_eq', jaUI_at, jaPt_eq, jaPt_ne, jaUI_o, jaUI_2, jaUL_at, jaUL_o, jaUL_1, jaB_z, jaB_1, ↓jaB_01, Classical.not_not, and_self, true_or, or_true, nI_11, Nat.reduceEqDiff, Nat.reduceAdd, Nat.reduceMul, Nat.add_zero, Nat.zero_add, Nat.mul_zero, not_true_eq_false, not_false_eq_true, false_implies, true_implies, w7]
          · simp (disch := first | omega | decide) only [jaU_eq, jaU_U, nI_add, pk_mul, jaIx_nI, vp_inT, true_and, and_true, ↓jaO0, ↓jaO1, nI_z, nI_z2, nI_z3, nI_z4, nI_z5, nI_lt', nI_le', nI_eq', jaUI_at, jaPt_eq, jaPt_ne, jaUI_o, jaUI_2, jaUL_at, jaUL_o, jaUL_1, jaB_z, jaB_1, ↓jaB_01, Classical.not_not, and_self, true_or, or_true, nI_11, Nat.reduceEqDiff, Nat.reduceAdd, Nat.reduceMul, Nat.add_zero, Nat.zero_add, Nat.mul_zero, not_true_eq_false, not_false_eq_true, false_implies, true_implies, l7]
          · simp (disch := first | omega | decide) only [jaU_eq, jaU_U, nI_add, pk_mul, jaIx_nI, vp_inT, true_and, and_true, ↓jaO0, ↓jaO1, nI_z, nI_z2, nI_z3, nI_z4, nI_z5, nI_lt', nI_le', nI_eq', jaUI_at, jaPt_eq, jaPt_ne, jaUI_o, jaUI_2, jaUL_at, jaUL_o, jaUL_1, jaB_z, jaB_1, ↓jaB_01, Classical.not_not, and_self, true_or, or_true, nI_11, Nat.reduceEqDiff, Nat.reduceAdd, Nat.reduceMul, Nat.add_zero, Nat.zero_add, Nat.mul_zero, not_true_eq_false, not_false_eq_true, false_implies, true_implies]
          · simp (disch := first | omega | decide) only [jaU_eq, jaU_U, nI_add, pk_mul, jaIx_nI, vp_inT, true_and, and_true, ↓jaO0, ↓jaO1, nI_z, nI_z2, nI_z3, nI_z4, nI_z5, nI_lt', nI_le', nI_eq', jaUI_at, jaPt_eq, jaPt_ne, jaUI_o, jaUI_2, jaUL_at, jaUL_o, jaUL_1, jaB_z, jaB_1, ↓jaB_01, Classical.not_not, and_self, true_or, or_true, nI_11, Nat.reduceEqDiff, Nat.reduceAdd, Nat.reduceMul, Nat.add_zero, Nat.zero_add, Nat.mul_zero, not_true_eq_false, not_false_eq_true, false_implies, true_implies]
          · simp (disch := first | omega | decide) only [jaU_eq, jaU_U, nI_add, pk_mul, jaIx_nI, vp_inT, true_and, and_true, ↓jaO0, ↓jaO1, nI_z, nI_z2, nI_z3, nI_z4, nI_z5, nI_lt', nI_le', nI_eq', jaUI_at, jaPt_eq, jaPt_ne, jaUI_o, jaUI_2, jaUL_at, jaUL_o, jaUL_1, jaB_z, jaB_1, ↓jaB_01, Classical.not_not, and_self, true_or, or_true, nI_11, Nat.reduceEqDiff, Nat.reduceAdd, Nat.reduceMul, Nat.add_zero, Nat.zero_add, Nat.mul_zero, not_true_eq_false, not_false_eq_true, false_implies, true_implies]
        clear hS8
        have F8 : jaFr jbH jbG S S8 := F7.trans (f8.mono (by decide) (by decide))
        have s8 : S8.1 72 0 = xe.1 := by rw [f8.s 72 (by decide) (by decide)]; exact s7
        have d8 : S8.1 75 0 = xe.2.1 := by rw [f8.s 75 (by decide) (by decide)]; exact d7
        have e8 : S8.1 76 0 = xe.2.2 := by rw [f8.s 76 (by decide) (by decide)]; exact e7
        have u8 : S8.1 83 0 = uu := by rw [f8.s 83 (by decide) (by decide)]; exact u7
        have m8 : S8.1 70 0 33 = nI m := by rw [f8.f 33 (by decide)]; exact m7
        have z8 : S8.1 70 0 2 = nI 0 := by rw [f8.f 2 (by decide)]; exact z7
        have z188 : S8.1 70 0 18 = nI 0 := by rw [f8.f 18 (by decide)]; exact z187
        have bf8 : S8.1 84 0 = S5.1 84 0 := (congrFun (f8.s 84 (by decide) (by decide)) 0).trans bf7
        rw [hx1]
        refine ⟨fun q1 => ⟨fun q0 => ?_, fun q0 => ?_⟩, fun q1 => ⟨fun q0 => ⟨fun _ => ?_, fun z => ?_⟩, fun q0 => ?_⟩⟩
        · rcases (show v = 0 ∨ v = 1 by omega) with z | z
          · exact absurd (by rw [z]; rfl) q0
          · exact absurd (by rw [z]) q1
        · have v0 : v = 0 := by rw [nI_z (by omega)] at q0; exact q0
          refine sp_M_brings (s := xe.1) (b := S5.1 84 0) (by omega) s8 bf8 (fun S9 a9 f9 => ?_)
          rw [jvCp_k g2.1 hbf] at a9
          rw [ex]
          refine h3 S9 ?_ ?_ ?_ ?_ ?_ ?_ ?_ ?_ (F8.trans (f9.mono (by decide) (by decide)))
          · unfold jbT at T8 ⊢
            rw [f9.s 88 (by decide) (by decide), f9.f 43 List.not_mem_nil]
            exact T8
          · rw [if_pos v0]; exact a9
          · rw [f9.s 75 (by decide) (by decide)]; exact d8
          · rw [f9.s 76 (by decide) (by decide)]; exact e8
          · rw [f9.s 83 (by decide) (by decide), if_neg (by omega)]; exact u8
          · rw [f9.f 33 List.not_mem_nil, if_neg (by omega)]; exact m8
          · rw [f9.f 2 List.not_mem_nil]; exact z8
          · rw [f9.f 18 List.not_mem_nil]; exact z188
        · have v1 : v = 1 := by rw [nI_eq' (by omega) (by omega)] at q1; exact q1
          rw [ex]
          refine h3 S8 T8 ?_ d8 e8 ?_ ?_ z8 z188 F8
          · rw [if_neg (by omega)]; exact s8
          · rw [if_neg (by show ¬ (v = 1 ∧ 0 < lived); omega)]; exact u8
          · rw [if_neg (by show ¬ (v = 1 ∧ 0 < lived); omega)]; exact m8
        · have v1 : v = 1 := by rw [nI_eq' (by omega) (by omega)] at q1; exact q1
          rw [v1] at z
          exact absurd z (by decide)
        · have v1 : v = 1 := by rw [nI_eq' (by omega) (by omega)] at q1; exact q1
          have hst : jvStM m ≤ 8 ∧ 1 ≤ jvStM m := by
            unfold jvStM
            by_cases z : m = 8
            · rw [jaIf1_t z]; omega
            · rw [jaIf1_f z]; omega
          refine sp_M_stores (s := xe.1) (u := uu) (m := m) (by omega) s8 u8 m8 hm8 (fun S9 a9 b9 f9 => ?_)
          have bf9 : S9.1 84 0 = S5.1 84 0 := (congrFun (f9.s 84 (by decide) (by decide)) 0).trans bf8
          refine jaFor (C := fun k => ∀ S', S'.1 83 0 = jvCp (jvSt xe.1 uu m) (494 * (jvStM m - 1)) (S5.1 84 0) 0 k → jaFr [83] [] S9 S' → jc_M_book_12 D kk (nI v) x2 (nI k) (jaU σ 20 S')) (N := 494) ?_ (fun k hk ih => ?_) S9 (by rw [jvCp_0]; exact a9) jaFr.rfl
          · intro S10 a10 f10
            rw [jvSt_o hbf] at a10
            apply jb_M_book_12
            simp (disch := first | omega | decide) only [jaU_eq, jaU_U, nI_add, pk_mul, jaIx_nI, vp_inT, true_and, and_true, ↓jaO0, ↓jaO1, nI_z, nI_z2, nI_z3, nI_z4, nI_z5, nI_lt', nI_le', nI_eq', jaUI_at, jaPt_eq, jaPt_ne, jaUI_o, jaUI_2, jaUL_at, jaUL_o, jaUL_1, jaB_z, jaB_1, ↓jaB_01, Classical.not_not, and_self, true_or, or_true, nI_11, Nat.reduceEqDiff, Nat.reduceAdd, Nat.reduceMul, Nat.add_zero, Nat.zero_add, Nat.mul_zero, not_true_eq_false, not_false_eq_true, false_implies, true_implies]
            refine ⟨fun _ => ?_, fun q => absurd (by omega) q⟩
            refine ⟨fun _ => ?_, fun z => absurd z (by omega)⟩
            rw [ex]
            refine h3 S10 ?_ ?_ ?_ ?_ ?_ ?_ ?_ ?_ (F8.trans ((f9.mono (by decide) (by decide)).trans (f10.mono (by decide) (by decide))))
            · unfold jbT at T8 ⊢
              rw [f10.s 88 (by decide) (by decide), f10.f 43 List.not_mem_nil, f9.s 88 (by decide) (by decide), f9.f 43 (by decide)]
              exact T8
            · rw [if_neg (by omega), f10.s 72 (by decide) (by decide), f9.s 72 (by decide) (by decide)]; exact s8
            · rw [f10.s 75 (by decide) (by decide), f9.s 75 (by decide) (by decide)]; exact d8
            · rw [f10.s 76 (by decide) (by decide), f9.s 76 (by decide) (by decide)]; exact e8
            · rw [if_pos (show v = 1 ∧ 0 < lived by omega)]; exact a10
            · rw [if_pos (show v = 1 ∧ 0 < lived by omega), f10.f 33 List.not_mem_nil]; exact b9
            · rw [f10.f 2 List.not_mem_nil, f9.f 2 (by decide)]; exact z8
            · rw [f10.f 18 List.not_mem_nil, f9.f 18 (by decide)]; exact z188
          · intro S10 a10 f10
            have g33 : S10.1 70 0 33 = nI (jvStM m) := by rw [f10.f 33 List.not_mem_nil]; exact b9
            have g84 : S10.1 84 0 = S5.1 84 0 := by rw [f10.s 84 (by decide) (by decide)]; exact bf9
            apply jb_M_book_12
            simp (disch := first | omega | decide) only [jaU_eq, jaU_U, nI_add, pk_mul, jaIx_nI, vp_inT, true_and, and_true, ↓jaO0, ↓jaO1, nI_z, nI_z2, nI_z3, nI_z4, nI_z5, nI_lt', nI_le', nI_eq', jaUI_at, jaPt_eq, jaPt_ne, jaUI_o, jaUI_2, jaUL_at, jaUL_o, jaUL_1, jaB_z, jaB_1, ↓jaB_01, Classical.not_not, and_self, true_or, or_true, nI_11, Nat.reduceEqDiff, Nat.reduceAdd, Nat.reduceMul, Nat.add_zero, Nat.zero_add, Nat.mul_zero, not_true_eq_false, not_false_eq_true, false_implies, true_implies, g33, g84, nI_sub]
            refine ⟨fun q => absurd q (by omega), fun _ => ?_⟩
            refine ih _ ?_ ?_
            · rw [jaUI_at, a10, jvCp_s, Nat.zero_add]
            · exact f10.ui (by decide) (by decide)
      have T := T _ rfl
      simp (disch := first | omega | decide) only [jaU_eq, jaU_U, nI_add, pk_mul, jaIx_nI, vp_inT, true_and, and_true, ↓jaO0, ↓jaO1, nI_z, nI_z2, nI_z3, nI_z4, nI_z5, nI_lt', nI_le', nI_eq', jaUI_at, jaPt_eq, jaPt_ne, jaUI_o, jaUI_2, jaUL_at, jaUL_o, jaUL_1, jaB_z, jaB_1, ↓jaB_01, Classical.not_not, and_self, true_or, or_true, nI_11, Nat.reduceEqDiff, Nat.reduceAdd, Nat.reduceMul, Nat.add_zero, Nat.zero_add, Nat.mul_zero, not_true_eq_false, not_false_eq_true, false_implies, true_implies, c41, s7, l7]
      refine ⟨fun _ => T, fun z => ⟨fun _ => T, fun z2 => absurd (hend.elim (fun y => absurd y z) (fun y => y)) z2⟩⟩
    -- the LINES
    have L8 : ∀ m i xc S7, i + m = n → jbGo ls m i xc = jbGo ls n 0 x → jW3 xc → jz xc.1 31 ≤ 1000 → jK3 x xc → S7.1 72 0 = xc.1 → S7.1 75 0 = xc.2.1 → S7.1 76 0 = xc.2.2 → S7.1 88 0 0 = nI 0 → S7.1 88 0 1 = nI i → jaFr [72, 75, 76, 80, 82, 88] [29] S5 S7 → jc_M_book_8 D kk x1 (-1) (nI i) (jaU σ 20 S7) := by
      intro m
      induction m with
      | zero =>
        intro i xc S7 him eg hWc htc hKc s7 d7 e7 w7 l7 f7
        rw [jbGo] at eg
        exact E8 (nI 0) i xc i (-1) S7 eg.symm (by rw [if_pos rfl]) (Or.inl (by omega)) (by omega) s7 d7 e7 w7 l7 f7
      | succ m ih =>
        intro i xc S7 him eg hWc htc hKc s7 d7 e7 w7 l7 f7
        have c41 : S7.1 70 0 41 = nI n := by rw [f7.f 41 (by decide), f5.f 41 List.not_mem_nil]; exact b41
        have hok := hls i (by omega)
        rw [← hKc.s0 (show 0 < 31 by decide), ← hKc.s0 (show 2 < 31 by decide)] at hok
        have hbl := jbOk_l hok
        obtain ⟨w1, w2, w3⟩ := jvLv_W hWc htc hbl
        obtain ⟨w, hw31, hwe⟩ := jvLv_n (t := (ls i).1) (a := (ls i).2.1) (b := (ls i).2.2) (x := xc)
        have r74 : S7.1 74 0 = S4.1 74 0 := by rw [f7.s 74 (by decide) (by decide), f5.s 74 (by decide) (by decide)]
        obtain ⟨k1, k2, k3⟩ := b74 i (by omega)
        have hi9 := hok.1
        rw [jbGo] at eg
        apply jb_M_book_8
        simp (disch := first | omega | decide) only [jaU_eq, jaU_U, nI_add, pk_mul, jaIx_nI, vp_inT, true_and, and_true, ↓jaO0, ↓jaO1, nI_z, nI_z2, nI_z3, nI_z4, nI_z5, nI_lt', nI_le', nI_eq', jaUI_at, jaPt_eq, jaPt_ne, jaUI_o, jaUI_2, jaUL_at, jaUL_o, jaUL_1, jaB_z, jaB_1, ↓jaB_01, Classical.not_not, and_self, true_or, or_true, nI_11, Nat.reduceEqDiff, Nat.reduceAdd, Nat.reduceMul, Nat.add_zero, Nat.zero_add, Nat.mul_zero, not_true_eq_false, not_false_eq_true, false_implies, true_implies, c41, r74, k1]
        refine ⟨fun z => absurd z (by omega), fun _ => ⟨fun z => absurd (show (0 : Int32) ≤ -1 from z) (by decide), fun _ => ?_⟩⟩
        refine sp_M_does (x := xc) (t := (ls i).1) (a := (ls i).2.1) (b := (ls i).2.2) (by omega) s7 d7 e7 hWc k2 k3 htc hbl (fun S9 a9 b9 c9 f9 => ?_)
        rw [hwe]
        have l9 : S9.1 88 0 1 = nI i := by rw [f9.s 88 (by decide) (by decide)]; exact l7
        simp (disch := first | omega | decide) only [jaU_eq, jaU_U, nI_add, pk_mul, jaIx_nI, vp_inT, true_and, and_true, ↓jaO0, ↓jaO1, nI_z, nI_z2, nI_z3, nI_z4, nI_z5, nI_lt', nI_le', nI_eq', jaUI_at, jaPt_eq, jaPt_ne, jaUI_o, jaUI_2, jaUL_at, jaUL_o, jaUL_1, jaB_z, jaB_1, ↓jaB_01, Classical.not_not, and_self, true_or, or_true, nI_11, Nat.reduceEqDiff, Nat.reduceAdd, Nat.reduceMul, Nat.add_zero, Nat.zero_add, Nat.mul_zero, not_true_eq_false, not_false_eq_true, false_implies, true_implies, l9]
        by_cases q : w = 0
        · subst q
          rw [jaIf1_t hwe] at eg
          refine ⟨fun _ => ?_, fun z => absurd rfl z⟩
          refine ih (i + 1) _ _ (by omega) eg w1 w3 (hKc.trans w2) ?_ ?_ ?_ ?_ ?_ ?_
          · rw [jaUI_o (by decide), jaUI_o (by decide)]; exact a9
          · rw [jaUI_o (by decide), jaUI_o (by decide)]; exact b9
          · rw [jaUI_o (by decide), jaUI_o (by decide)]; exact c9
          · simp (disch := first | omega | decide) only [jaU_eq, jaU_U, nI_add, pk_mul, jaIx_nI, vp_inT, true_and, and_true, ↓jaO0, ↓jaO1, nI_z, nI_z2, nI_z3, nI_z4, nI_z5, nI_lt', nI_le', nI_eq', jaUI_at, jaPt_eq, jaPt_ne, jaUI_o, jaUI_2, jaUL_at, jaUL_o, jaUL_1, jaB_z, jaB_1, ↓jaB_01, Classical.not_not, and_self, true_or, or_true, nI_11, Nat.reduceEqDiff, Nat.reduceAdd, Nat.reduceMul, Nat.add_zero, Nat.zero_add, Nat.mul_zero, not_true_eq_false, not_false_eq_true, false_implies, true_implies]
          · simp (disch := first | omega | decide) only [jaU_eq, jaU_U, nI_add, pk_mul, jaIx_nI, vp_inT, true_and, and_true, ↓jaO0, ↓jaO1, nI_z, nI_z2, nI_z3, nI_z4, nI_z5, nI_lt', nI_le', nI_eq', jaUI_at, jaPt_eq, jaPt_ne, jaUI_o, jaUI_2, jaUL_at, jaUL_o, jaUL_1, jaB_z, jaB_1, ↓jaB_01, Classical.not_not, and_self, true_or, or_true, nI_11, Nat.reduceEqDiff, Nat.reduceAdd, Nat.reduceMul, Nat.add_zero, Nat.zero_add, Nat.mul_zero, not_true_eq_false, not_false_eq_true, false_implies, true_implies]
          · exact (f7.trans (f9.mono (by decide) (by decide))).ui (by decide) (by decide) |>.ui (by decide) (by decide)
        · rw [jaIf1_f (by rw [hwe, nI_eq' (by omega) (by omega)]; exact q), hwe] at eg
          refine ⟨fun z => absurd z q, fun _ => ?_⟩
          refine E8 (nI w) i _ (i + 1) (nI i) _ eg.symm ?_ (Or.inr (nI_pos' (by omega))) (by omega) ?_ ?_ ?_ ?_ ?_ ?_
          · rw [if_neg (by rw [nI_eq' (by omega) (by omega)]; exact q)]
          · rw [jaUI_o (by decide)]; exact a9
          · rw [jaUI_o (by decide)]; exact b9
          · rw [jaUI_o (by decide)]; exact c9
          · simp (disch := first | omega | decide) only [jaU_eq, jaU_U, nI_add, pk_mul, jaIx_nI, vp_inT, true_and, and_true, ↓jaO0, ↓jaO1, nI_z, nI_z2, nI_z3, nI_z4, nI_z5, nI_lt', nI_le', nI_eq', jaUI_at, jaPt_eq, jaPt_ne, jaUI_o, jaUI_2, jaUL_at, jaUL_o, jaUL_1, jaB_z, jaB_1, ↓jaB_01, Classical.not_not, and_self, true_or, or_true, nI_11, Nat.reduceEqDiff, Nat.reduceAdd, Nat.reduceMul, Nat.add_zero, Nat.zero_add, Nat.mul_zero, not_true_eq_false, not_false_eq_true, false_implies, true_implies]
          · simp (disch := first | omega | decide) only [jaU_eq, jaU_U, nI_add, pk_mul, jaIx_nI, vp_inT, true_and, and_true, ↓jaO0, ↓jaO1, nI_z, nI_z2, nI_z3, nI_z4, nI_z5, nI_lt', nI_le', nI_eq', jaUI_at, jaPt_eq, jaPt_ne, jaUI_o, jaUI_2, jaUL_at, jaUL_o, jaUL_1, jaB_z, jaB_1, ↓jaB_01, Classical.not_not, and_self, true_or, or_true, nI_11, Nat.reduceEqDiff, Nat.reduceAdd, Nat.reduceMul, Nat.add_zero, Nat.zero_add, Nat.mul_zero, not_true_eq_false, not_false_eq_true, false_implies, true_implies, l9]
          · exact (f7.trans (f9.mono (by decide) (by decide))).ui (by decide) (by decide)
    refine L8 n 0 x S6 (by omega) rfl hW htk jK3.rfl ?_ ?_ ?_ (z88 0 (by decide)) (z88 1 (by decide)) (f6.mono (by decide) (by decide))
    · rw [f6.s 72 (by decide) (by decide), f5.s 72 (by decide) (by decide)]; exact s4
    · rw [f6.s 75 (by decide) (by decide), f5.s 75 (by decide) (by decide)]; exact d4
    · rw [f6.s 76 (by decide) (by decide), f5.s 76 (by decide) (by decide)]; exact e4
  · intro S6 f6 z88
    apply jb_M_book_6
    simp (disch := first | omega | decide) only [jaU_eq, jaU_U, nI_add, pk_mul, jaIx_nI, vp_inT, true_and, and_true, ↓jaO0, ↓jaO1, nI_z, nI_z2, nI_z3, nI_z4, nI_z5, nI_lt', nI_le', nI_eq', jaUI_at, jaPt_eq, jaPt_ne, jaUI_o, jaUI_2, jaUL_at, jaUL_o, jaUL_1, jaB_z, jaB_1, ↓jaB_01, Classical.not_not, and_self, true_or, or_true, nI_11, Nat.reduceEqDiff, Nat.reduceAdd, Nat.reduceMul, Nat.add_zero, Nat.zero_add, Nat.mul_zero, not_true_eq_false, not_false_eq_true, false_implies, true_implies]
    refine ⟨fun q => absurd q (by omega), fun _ => ?_⟩
    refine ih _ (f6.ui (by decide) (by decide)) (fun j hj => ?_)
    rw [jaUI_at]
    by_cases z : j = k
    · rw [z, jaPt_eq]
    · rw [jaPt_ne z]; exact z88 j (by omega)
end
