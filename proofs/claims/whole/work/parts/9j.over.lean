section
/-! trials leave all as it was -/
theorem jI_G {σ : jaT} {S' : jaS} {A F : List Nat} (h : jI σ) (f : jaFr A F (σ 20) S') (hA : ∀ o, o ∈ [71, 78, 79, 83, 86, 88, 91, 92, 93, 94, 95] → o ∉ A) (hF : ∀ j, j ∈ [2, 18, 33, 37, 38, 39, 43] → j ∉ F) (h72 : S'.1 72 0 = (σ 20).1 72 0)
    (h75 : ∀ j, j < 133 * jz ((σ 20).1 72 0) 32 → S'.1 75 0 j = (σ 20).1 75 0 j) (h76 : ∀ j, j < 9 * jz ((σ 20).1 72 0) 33 → S'.1 76 0 j = (σ 20).1 76 0 j) : jI (jaU σ 20 S') := by
  obtain ⟨h1, h2, h3, h4, h5, h6, h7, h8⟩ := h
  have n : ∀ q, q ≠ 20 → jaU σ 20 S' q = σ q := fun q hq => jaU_ne hq
  have e20 : jaU σ 20 S' 20 = S' := jaU_eq
  have s : ∀ o, o ∈ [71, 78, 79, 83, 86, 88, 91, 92, 93, 94, 95] → S'.1 o = (σ 20).1 o := fun o ho => f.s o (hA o ho) (fun e => by rw [e] at ho; revert ho; decide)
  have l : ∀ o, o ∈ [71, 78, 79, 83, 86, 88, 91, 92, 93, 94, 95] → S'.2 o = (σ 20).2 o := fun o ho => f.l o (hA o ho) (fun e => by rw [e] at ho; revert ho; decide)
  have g : ∀ j, j ∈ [2, 18, 33, 37, 38, 39, 43] → S'.1 70 0 j = (σ 20).1 70 0 j := fun j hj => f.f j (hF j hj)
  unfold jI
  rw [e20, n 0 (by decide), n 1 (by decide)]
  refine ⟨?_, ?_, ?_, ?_, ?_, ?_, ?_, ?_⟩
  · unfold jIt
    rw [g 2 (by decide), g 18 (by decide), s 71 (by decide)]
    exact h1
  · unfold jIs jIx
    rw [h72, l 78 (by decide)]
    exact ⟨jR_g h2.1 h2.2.1 h75 h76, jW_g h2.2.1 h75 h76, h2.2.2⟩
  · obtain ⟨m, q, a, b, c, d, e, i, k⟩ := h3
    refine ⟨m, q, a, b, c, d, by rw [g 33 (by decide)]; exact e, by rw [h72, s 83 (by decide)]; exact i, fun j hj => ?_⟩
    rw [n _ (by omega), h72, s 83 (by decide)]
    obtain ⟨y, y1, y2, y3, y4, y5, y6⟩ := k j hj
    obtain ⟨z1, z2⟩ := i.2 j hj
    have e1 : jz ((σ 20).1 83 0) (494 * j + 1) = jz y 32 := by
      unfold jz
      rw [y4 1 (by decide)]
    have e2 : jz ((σ 20).1 83 0) (494 * j + 2) = jz y 33 := by
      unfold jz
      rw [y4 2 (by decide)]
    rw [e1] at z1
    rw [e2] at z2
    exact ⟨y, jR_g y1 y2 (fun j hj => h75 j (by omega)) (fun j hj => h76 j (by omega)), jW_g y2 (fun j hj => h75 j (by omega)) (fun j hj => h76 j (by omega)), y3, y4, y5, y6⟩
  · obtain ⟨w, a, b, c⟩ := h4
    exact ⟨w, a, b, by rw [n _ (by omega), h72]; exact c⟩
  · intro k hk
    rw [s 95 (by decide), n _ (by omega), n _ (by omega)]
    unfold jIi1
    rw [s 91 (by decide), s 92 (by decide), s 93 (by decide), l 94 (by decide)]
    exact h5 k hk
  · unfold jIb
    rw [g 43 (by decide), s 88 (by decide)]
    exact h6
  · unfold jIf
    rw [g 37 (by decide), g 38 (by decide), g 39 (by decide), s 86 (by decide)]
    exact h7
  · unfold jIm jmV
    rw [l 79 (by decide), n 13 (by decide)]
    exact h8
/-- after how many ticks all is over -/
def jQo (x : jvX) (v : Int32) : Prop := (∃ i, i ≤ 400 ∧ v = nI i ∧ jvAll (jvTs3 x i).1 ∧ ∀ j, j < i → ¬ jvAll (jvTs3 x j).1) ∨ (v = -1 ∧ ∀ j, j ≤ 400 → ¬ jvAll (jvTs3 x j).1)
theorem jQo_1 {x : jvX} {a b : Int32} (h : jQo x a) (h' : jQo x b) : a = b := by
  rcases h with ⟨i, i1, i2, i3, i4⟩ | ⟨i1, i2⟩ <;> rcases h' with ⟨j, j1, j2, j3, j4⟩ | ⟨j1, j2⟩
  · rcases Nat.lt_trichotomy i j with z | z | z
    · exact absurd i3 (j4 i z)
    · rw [i2, j2, z]
    · exact absurd j3 (i4 j z)
  · exact absurd i3 (j2 i i1)
  · exact absurd j3 (i2 j j1)
  · rw [i1, j1]
set_option maxHeartbeats 1000000 in
theorem jm_over {τ : jaT} (hI : jI τ) {kk : Int32 → jaT → Prop} (hk : ∀ v S', jQo (jIx (τ 20)) v → jI (jaU τ 20 S') → kk v (jaU τ 20 S')) : jaDe 12 jy_M_over [jaMo] τ (jaKi kk) := by
  have hW : jW3 (jIx (τ 20)) := hI.W
  have ht : jz (jIx (τ 20)).1 31 ≤ 1000 := hI.2.1.2.2.1
  generalize hx : jIx (τ 20) = x at *
  have x1 : (τ 20).1 72 0 = x.1 := by rw [← hx]
  have x2 : (τ 20).1 75 0 = x.2.1 := by rw [← hx]
  have x3 : (τ 20).1 76 0 = x.2.2 := by rw [← hx]
  apply js_M_over
  refine sp_M_tries (s := x.1) (b := (τ 20).1 84 0) (by omega) (by simp (disch := first | omega | decide) only [jaU_eq, jaU_U, nI_add, pk_mul, jaIx_nI, vp_inT, true_and, and_true, ↓jaO0, ↓jaO1, nI_z, nI_z2, nI_z3, nI_z4, nI_z5, nI_lt', nI_le', nI_eq', jaUI_at, jaPt_eq, jaPt_ne, jaUI_o, jaUI_2, jaUL_at, jaUL_o, jaUL_1, jaB_z, jaB_1, ↓jaB_01, Classical.not_not, and_self, true_or, or_true, nI_11, Nat.reduceEqDiff, Nat.reduceAdd, Nat.reduceMul, Nat.add_zero, Nat.zero_add, Nat.mul_zero, not_true_eq_false, not_false_eq_true, false_implies, true_implies, x1]) (by simp (disch := first | omega | decide) only [jaU_eq, jaU_U, nI_add, pk_mul, jaIx_nI, vp_inT, true_and, and_true, ↓jaO0, ↓jaO1, nI_z, nI_z2, nI_z3, nI_z4, nI_z5, nI_lt', nI_le', nI_eq', jaUI_at, jaPt_eq, jaPt_ne, jaUI_o, jaUI_2, jaUL_at, jaUL_o, jaUL_1, jaB_z, jaB_1, ↓jaB_01, Classical.not_not, and_self, true_or, or_true, nI_11, Nat.reduceEqDiff, Nat.reduceAdd, Nat.reduceMul, Nat.add_zero, Nat.zero_add, Nat.mul_zero, not_true_eq_false, not_false_eq_true, false_implies, true_implies]) (fun S1 s84 f1 => ?_)
  have f00 : jaFr [] [0] (τ 20) (jaUI (τ 20) 70 0 0 (nI 0)) := jaFr.rfl.uf (by decide)
  have f0 : jaFr [72, 76, 80, 82, 84] [0, 29] (τ 20) S1 := (f00.mono (by decide) (by decide)).trans (f1.mono (by decide) (by decide))
  generalize hb : jvCp ((τ 20).1 84 0) 0 x.1 31 494 = bb at s84
  have hbb : ∀ i, i < 494 → bb i = x.1 (31 + i) := fun i hi => by
    rw [← hb, show i = 0 + i by omega, jvCp_in hi, Nat.zero_add]
  have fin : ∀ i S' v, i ≤ 401 → jQo x v → S'.1 72 0 = (jvTs3 x i).1 → S'.1 76 0 = (jvTs3 x i).2.2 → S'.1 84 0 = bb → jaFr [72, 76, 80, 82, 84] [0, 29] (τ 20) S' → jaDe 11 jy_M_brings [jaMo] (jaU τ 20 S') (jaKv fun σ1 => kk v σ1) := by
    intro i S' v hi hv a72 a76 a84 f
    obtain ⟨-, k1, -⟩ := jvTs3_W hW i (by omega)
    refine sp_M_brings (by omega) a72 a84 (fun S2 b72 g => hk v S2 hv ?_)
    have g2 := f.trans (g.mono (by decide) (by decide))
    refine jI_G hI g2 (by decide) (by decide) ?_ (fun j _ => ?_) (fun j hj => ?_)
    · rw [b72, x1]
      exact jvCp_k k1.1 hbb
    · rw [g2.s 75 (by decide) (by decide)]
    · rw [g.s 76 (by decide) (by decide), a76, x3]
      rw [x1] at hj
      exact k1.2.2.1 j hj
  refine jaFor (C := fun i => ∀ S' v, i ≤ 401 → ((v = -1 ∧ ∀ j, j < i → ¬ jvAll (jvTs3 x j).1) ∨ (¬ v = -1 ∧ 0 ≤ v ∧ jQo x v)) → S'.1 72 0 = (jvTs3 x i).1 → S'.1 75 0 = (jvTs3 x i).2.1 → S'.1 76 0 = (jvTs3 x i).2.2 → S'.1 84 0 = bb → jaFr [72, 76, 80, 82, 84] [0, 29] (τ 20) S' → jc_M_over_1 11 kk v (nI i) (jaU τ 20 S')) (N := 401) ?_ (fun i hi ih => ?_) S1 (-1) (by omega) (Or.inl ⟨rfl, fun j hj => absurd hj (by omega)⟩) ?_ ?_ ?_ s84 f0
  · intro S' v _ hv a72 _ a76 a84 f
    apply jb_M_over_1
    refine ⟨fun _ => fin 401 S' v (by omega) ?_ a72 a76 a84 f, fun z => absurd (by decide) z⟩
    rcases hv with ⟨hv, hn⟩ | ⟨-, -, hv⟩
    · exact Or.inr ⟨hv, fun j hj => hn j (by omega)⟩
    · exact hv
  · intro S' v _ hv a72 a75 a76 a84 f
    obtain ⟨w1, k1, -⟩ := jvTs3_W hW i (by omega)
    apply jb_M_over_1
    refine ⟨fun z => absurd z (by rw [nI_lt' (by omega) (by omega)]; omega), fun _ => ⟨fun z => ?_, fun z => ?_⟩⟩
    · rcases hv with ⟨hv, -⟩ | ⟨-, -, hv⟩
      · exact absurd z (by rw [hv]; decide)
      · exact fin i S' v (by omega) hv a72 a76 a84 f
    · rcases hv with ⟨hv, hn⟩ | ⟨-, hv, -⟩
      · have T : ∀ v', ((v' = -1 ∧ ∀ j, j < i + 1 → ¬ jvAll (jvTs3 x j).1) ∨ (¬ v' = -1 ∧ 0 ≤ v' ∧ jQo x v')) → jaDe 11 jy_M_tick [jaMo] (jaU τ 20 S') (jaKv fun σ5 => jc_M_over_1 11 kk v' (nI i + nI 1) σ5) := by
          intro v' hv'
          refine sp_M_tick (by omega) a72 a75 a76 w1 (fun S2 b72 b76 g => ?_)
          rw [nI_add]
          exact ih S2 v' (by omega) hv' b72 ((congrFun (g.s 75 (by decide) (by decide)) 0).trans a75) b76 (by rw [g.s 84 (by decide) (by decide)]; exact a84) (f.trans (g.mono (by decide) (by decide)))
        refine sp_M_isAllOver (by omega) a72 w1 ⟨fun y => ?_, fun y => ?_⟩
        · rw [jaB_z] at y
          refine T _ (Or.inl ⟨hv, fun j hj => ?_⟩)
          by_cases e : j = i
          · rw [e]
            exact y
          · exact hn j (by omega)
        · rw [jaB_z, Classical.not_not] at y
          refine T _ (Or.inr ⟨?_, ?_, Or.inl ⟨i, by omega, rfl, y, hn⟩⟩)
          · intro e
            have := congrArg (fun y => decide (y < 0)) e
            simp only [show (0 : Int32) = nI 0 from rfl, nI_lt' (show i < 2147483648 by omega) (show 0 < 2147483648 by decide)] at this
            revert this
            simp
            decide
          · rw [show (0 : Int32) = nI 0 from rfl, nI_le' (by omega) (by omega)]
            omega
      · exact absurd hv z
  · rw [f1.s 72 (by decide) (by decide)]
    simp (disch := first | omega | decide) only [jaU_eq, jaU_U, nI_add, pk_mul, jaIx_nI, vp_inT, true_and, and_true, ↓jaO0, ↓jaO1, nI_z, nI_z2, nI_z3, nI_z4, nI_z5, nI_lt', nI_le', nI_eq', jaUI_at, jaPt_eq, jaPt_ne, jaUI_o, jaUI_2, jaUL_at, jaUL_o, jaUL_1, jaB_z, jaB_1, ↓jaB_01, Classical.not_not, and_self, true_or, or_true, nI_11, Nat.reduceEqDiff, Nat.reduceAdd, Nat.reduceMul, Nat.add_zero, Nat.zero_add, Nat.mul_zero, not_true_eq_false, not_false_eq_true, false_implies, true_implies, x1]
    rfl
  · rw [f1.s 75 (by decide) (by decide)]
    simp (disch := first | omega | decide) only [jaU_eq, jaU_U, nI_add, pk_mul, jaIx_nI, vp_inT, true_and, and_true, ↓jaO0, ↓jaO1, nI_z, nI_z2, nI_z3, nI_z4, nI_z5, nI_lt', nI_le', nI_eq', jaUI_at, jaPt_eq, jaPt_ne, jaUI_o, jaUI_2, jaUL_at, jaUL_o, jaUL_1, jaB_z, jaB_1, ↓jaB_01, Classical.not_not, and_self, true_or, or_true, nI_11, Nat.reduceEqDiff, Nat.reduceAdd, Nat.reduceMul, Nat.add_zero, Nat.zero_add, Nat.mul_zero, not_true_eq_false, not_false_eq_true, false_implies, true_implies, x2]
    rfl
  · rw [f1.s 76 (by decide) (by decide)]
    simp (disch := first | omega | decide) only [jaU_eq, jaU_U, nI_add, pk_mul, jaIx_nI, vp_inT, true_and, and_true, ↓jaO0, ↓jaO1, nI_z, nI_z2, nI_z3, nI_z4, nI_z5, nI_lt', nI_le', nI_eq', jaUI_at, jaPt_eq, jaPt_ne, jaUI_o, jaUI_2, jaUL_at, jaUL_o, jaUL_1, jaB_z, jaB_1, ↓jaB_01, Classical.not_not, and_self, true_or, or_true, nI_11, Nat.reduceEqDiff, Nat.reduceAdd, Nat.reduceMul, Nat.add_zero, Nat.zero_add, Nat.mul_zero, not_true_eq_false, not_false_eq_true, false_implies, true_implies, x3]
    rfl
theorem jf_over : jFc jy_A_over jy_M_over [] := by
  intro σ hI
  have hR := hI.R
  have hW : jW3 (jIx (σ 20)) := hI.W
  have ht : jz (jIx (σ 20)).1 31 ≤ 1000 := hI.2.1.2.2.1
  have hQ : ∀ S2 v, jQo (jIx (σ 20)) v → jaDe 12 jy_M_over [jaMo] (jaU σ 2 S2) (jaKi fun b σ2 => v = b ∧ jI σ2) := by
    intro S2 v hv
    have e : jaU σ 2 S2 20 = σ 20 := jaU_ne (by decide)
    refine jm_over (jI_2 hI) (fun b S' hb h' => ⟨?_, h'⟩)
    rw [e] at hb
    exact jQo_1 hv hb
  generalize hx : jIx (σ 20) = x at *
  have hR : jR (σ 1) x := by rw [← hx]; exact hR
  apply js_A_over
  refine jaAk (k := 2) (B := σ 2) (P := fun τ => jaDe 32 jy_St_copyFrom [jcSt 2, jcSt 1] τ (jaKv fun σ1 => jc_A_over_1 32 (fun a σ1 => jaDe 12 jy_M_over [jaMo] σ1 (jaKi fun b σ2 => a = b ∧ jI σ2)) (nI 0) σ1)) rfl ?_
  refine sp_St_copyFrom (s := x.1) (d := x.2.1) (e := x.2.2) (by omega) (by decide) rfl hR hW (fun S1 r1 _ _ => ?_)
  refine jaFor (C := fun i => ∀ S2, jR S2 (jvTs3 x i) → (∀ j, j < i → ¬ jvAll (jvTs3 x j).1) → jc_A_over_1 32 (fun a σ1 => jaDe 12 jy_M_over [jaMo] σ1 (jaKi fun b σ2 => a = b ∧ jI σ2)) (nI i) (jaU σ 2 S2)) (N := 401) ?_ (fun i hi ih => ?_) S1 r1 (fun j hj => absurd hj (by omega))
  · intro S2 _ hn
    apply jb_A_over_1
    exact ⟨fun _ => hQ S2 _ (Or.inr ⟨rfl, fun j hj => hn j (by omega)⟩), fun z => absurd (by decide) z⟩
  · intro S2 r2 hn
    obtain ⟨w1, -, -⟩ := jvTs3_W hW i (by omega)
    apply jb_A_over_1
    refine ⟨fun z => absurd z (by rw [nI_lt' (by omega) (by omega)]; omega), fun _ => ?_⟩
    refine sp_St_isOver (s := (jvTs3 x i).1) (d := (jvTs3 x i).2.1) (e := (jvTs3 x i).2.2) (by omega) r2 w1 ⟨fun y => ?_, fun y => ?_⟩
    · rw [jaB_z] at y
      refine sp_St_passTick3 (by omega) r2 w1 (fun S3 r3 _ => ?_)
      rw [nI_add]
      refine ih S3 r3 (fun j hj => ?_)
      by_cases e : j = i
      · rw [e]
        exact y
      · exact hn j (by omega)
    · rw [jaB_z, Classical.not_not] at y
      exact hQ S2 _ (Or.inl ⟨i, by omega, rfl, y, hn⟩)
end
