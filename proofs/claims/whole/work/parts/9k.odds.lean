section
/-! odds -/
/-- what the rows are ahead of trial r -/
noncomputable def jYo (x : jvX) (z : Int32) (n : Nat) : Nat → jvX := jaRec (fun r y => (x.1, (jvDs (y, z + nI r) n).1.2.1, (jvDs (y, z + nI r) n).1.2.2)) x
theorem jYo_W {x : jvX} {z : Int32} {n : Nat} (hW : jW3 x) (ht : jz x.1 31 + n < 3000) : ∀ r, jW3 (jYo x z n r) ∧ (jYo x z n r).1 = x.1 ∧ (∀ j, j < 133 * jz x.1 32 → (jYo x z n r).2.1 j = x.2.1 j) ∧ ∀ j, j < 9 * jz x.1 33 → (jYo x z n r).2.2 j = x.2.2 j
  | 0 => ⟨hW, rfl, fun _ _ => rfl, fun _ _ => rfl⟩
  | r + 1 => by
    obtain ⟨a, b, c, d⟩ := jYo_W hW ht r
    obtain ⟨-, k, -⟩ := jvDs_W (x := jYo x z n r) (z := z + nI r) a n (by rw [b]; exact ht)
    obtain ⟨-, k2, k3, -, -⟩ := k
    rw [b] at k2 k3
    have d1 : ∀ j, j < 133 * jz x.1 32 → (jYo x z n (r + 1)).2.1 j = x.2.1 j := fun j hj => (k2 j hj).trans (c j hj)
    have d2 : ∀ j, j < 9 * jz x.1 33 → (jYo x z n (r + 1)).2.2 j = x.2.2 j := fun j hj => (k3 j hj).trans (d j hj)
    exact ⟨jW_g (s := x.1) (d := x.2.1) (e := x.2.2) hW d1 d2, rfl, d1, d2⟩
def jYs (x : jvX) (z : Int32) (n r : Nat) : Prop := jvSame (jvDs (jYo x z n r, z + nI r) n).1.1
set_option maxHeartbeats 1000000 in
theorem jm_odds {τ : jaT} (hI : jI τ) {kk : Int32 → jaT → Prop} {N : Nat} {z : Int32} (h1 : 1 ≤ N) (h10 : N ≤ 10) (hk : ∀ S', jI (jaU τ 20 S') → kk (nI (jaCnt (jYs (jIx (τ 20)) z (min 30 (1000 - jz ((τ 20).1 72 0) 31))) N)) (jaU τ 20 S')) : jaDe 12 jy_M_odds [jaMo, .inl (nI N), .inl z] τ (jaKi kk) := by
  have hW : jW3 (jIx (τ 20)) := hI.W
  have ht : jz (jIx (τ 20)).1 31 ≤ 1000 := hI.2.1.2.2.1
  have hk : ∀ S', jI (jaU τ 20 S') → kk (nI (jaCnt (jYs (jIx (τ 20)) z (min 30 (1000 - jz (jIx (τ 20)).1 31))) N)) (jaU τ 20 S') := hk
  generalize hx : jIx (τ 20) = x at *
  have x1 : (τ 20).1 72 0 = x.1 := by rw [← hx]
  have x2 : (τ 20).1 75 0 = x.2.1 := by rw [← hx]
  have x3 : (τ 20).1 76 0 = x.2.2 := by rw [← hx]
  generalize hn : min 30 (1000 - jz x.1 31) = n at *
  have hn30 : n ≤ 30 := by omega
  have Y := fun r => jYo_W (x := x) (z := z) (n := n) hW (by omega) r
  apply js_M_odds
  refine sp_M_isIn (by omega) ?_
  rw [jaB_t ⟨by rw [nI_lt' (by omega) (by omega)]; omega, by rw [nI_lt' (by omega) (by omega)]; omega⟩]
  refine ⟨fun _ => ?_, fun y => absurd y (by decide)⟩
  refine sp_M_tries (s := x.1) (b := (τ 20).1 84 0) (by omega) (by simp (disch := first | omega | decide) only [jaU_eq, jaU_U, nI_add, pk_mul, jaIx_nI, vp_inT, true_and, and_true, ↓jaO0, ↓jaO1, nI_z, nI_z2, nI_z3, nI_z4, nI_z5, nI_lt', nI_le', nI_eq', jaUI_at, jaPt_eq, jaPt_ne, jaUI_o, jaUI_2, jaUL_at, jaUL_o, jaUL_1, jaB_z, jaB_1, ↓jaB_01, Classical.not_not, and_self, true_or, or_true, nI_11, Nat.reduceEqDiff, Nat.reduceAdd, Nat.reduceMul, Nat.add_zero, Nat.zero_add, Nat.mul_zero, not_true_eq_false, not_false_eq_true, false_implies, true_implies, x1]) (by simp (disch := first | omega | decide) only [jaU_eq, jaU_U, nI_add, pk_mul, jaIx_nI, vp_inT, true_and, and_true, ↓jaO0, ↓jaO1, nI_z, nI_z2, nI_z3, nI_z4, nI_z5, nI_lt', nI_le', nI_eq', jaUI_at, jaPt_eq, jaPt_ne, jaUI_o, jaUI_2, jaUL_at, jaUL_o, jaUL_1, jaB_z, jaB_1, ↓jaB_01, Classical.not_not, and_self, true_or, or_true, nI_11, Nat.reduceEqDiff, Nat.reduceAdd, Nat.reduceMul, Nat.add_zero, Nat.zero_add, Nat.mul_zero, not_true_eq_false, not_false_eq_true, false_implies, true_implies]) (fun S1 s84 f1 => ?_)
  have f00 : jaFr [] [0] (τ 20) (jaUI (τ 20) 70 0 0 (nI 0)) := jaFr.rfl.uf (by decide)
  have f0 : jaFr [72, 75, 76, 80, 82, 84] [0, 29, 40] (τ 20) S1 := (f00.mono (by decide) (by decide)).trans (f1.mono (by decide) (by decide))
  generalize hb : jvCp ((τ 20).1 84 0) 0 x.1 31 494 = bb at s84
  have hbb : ∀ i, i < 494 → bb i = x.1 (31 + i) := fun i hi => by
    rw [← hb, show i = 0 + i by omega, jvCp_in hi, Nat.zero_add]
  refine jaFor (C := fun r => ∀ S', S'.1 72 0 = x.1 → S'.1 75 0 = (jYo x z n r).2.1 → S'.1 76 0 = (jYo x z n r).2.2 → S'.1 84 0 = bb → jaFr [72, 75, 76, 80, 82, 84] [0, 29, 40] (τ 20) S' → jc_M_odds_2 11 kk (nI N) z (nI (jaCnt (jYs x z n) r)) (nI r) (jaU τ 20 S')) (N := N) ?_ (fun r hr ih => ?_) S1 ?_ ?_ ?_ s84 f0
  · intro S' a72 a75 a76 a84 f
    obtain ⟨-, -, y2, y3⟩ := Y N
    apply jb_M_odds_2
    refine ⟨fun _ => hk S' ?_, fun y => absurd (by rw [nI_le' (by omega) (by omega)]; omega) y⟩
    refine jI_G hI f (by decide) (by decide) (by rw [a72, x1]) (fun j hj => ?_) (fun j hj => ?_)
    · rw [a75, x2]
      rw [x1] at hj
      exact y2 j hj
    · rw [a76, x3]
      rw [x1] at hj
      exact y3 j hj
  · intro S' a72 a75 a76 a84 f
    obtain ⟨w1, w2, -, -⟩ := Y r
    have ht' : jz (jYo x z n r).1 31 ≤ 1000 := by
      rw [w2]
      exact ht
    have hm : min 30 (1000 - jz (jYo x z n r).1 31) = n := by
      rw [w2]
      exact hn
    have c10 := jaCnt_le (p := jYs x z n) r
    apply jb_M_odds_2
    refine ⟨fun y => absurd y (by rw [nI_le' (by omega) (by omega)]; omega), fun _ => ?_⟩
    refine sp_M_draws (x := jYo x z n r) (by omega) (by rw [a72, w2]) a75 a76 w1 (by omega) ht' (fun S2 b72 b75 b76 g => ?_)
    rw [hm] at b72 b75 b76
    obtain ⟨v1, k, -⟩ := jvDs_W (x := jYo x z n r) (z := z + nI r) w1 n (by rw [w2]; omega)
    have T : ∀ v : Nat, v = jaCnt (jYs x z n) (r + 1) → jaDe 11 jy_M_brings [jaMo] (jaU τ 20 S2) (jaKv fun σ5 => jc_M_odds_2 11 kk (nI N) z (nI v) (nI r + nI 1) σ5) := by
      intro v hv
      have a84' : S2.1 84 0 = bb := by rw [g.s 84 (by decide) (by decide)]; exact a84
      refine sp_M_brings (by omega) b72 a84' (fun S3 c72 g3 => ?_)
      rw [nI_add, hv]
      refine ih S3 ?_ ?_ ?_ ?_ ((f.trans (g.mono (by decide) (by decide))).trans (g3.mono (by decide) (by decide)))
      · rw [c72]
        have k1 := k.1
        rw [w2] at k1
        exact jvCp_k k1 hbb
      · rw [g3.s 75 (by decide) (by decide), b75]
        rfl
      · rw [g3.s 76 (by decide) (by decide), b76]
        rfl
      · rw [g3.s 84 (by decide) (by decide)]
        exact a84'
    refine sp_M_areSame (s := (jvDs (jYo x z n r, z + nI r) n).1.1) (d := (jvDs (jYo x z n r, z + nI r) n).1.2.1) (e := (jvDs (jYo x z n r, z + nI r) n).1.2.2) (by omega) b72 v1 ⟨fun y => ?_, fun y => ?_⟩
    · rw [jaB_z] at y
      rw [nI_add]
      exact T _ (jaCnt_f (p := jYs x z n) y).symm
    · rw [jaB_z, Classical.not_not] at y
      rw [nI_add]
      exact T _ (jaCnt_t (p := jYs x z n) y).symm
  · rw [f1.s 72 (by decide) (by decide)]
    simp (disch := first | omega | decide) only [jaU_eq, jaU_U, nI_add, pk_mul, jaIx_nI, vp_inT, true_and, and_true, ↓jaO0, ↓jaO1, nI_z, nI_z2, nI_z3, nI_z4, nI_z5, nI_lt', nI_le', nI_eq', jaUI_at, jaPt_eq, jaPt_ne, jaUI_o, jaUI_2, jaUL_at, jaUL_o, jaUL_1, jaB_z, jaB_1, ↓jaB_01, Classical.not_not, and_self, true_or, or_true, nI_11, Nat.reduceEqDiff, Nat.reduceAdd, Nat.reduceMul, Nat.add_zero, Nat.zero_add, Nat.mul_zero, not_true_eq_false, not_false_eq_true, false_implies, true_implies, x1]
  · rw [f1.s 75 (by decide) (by decide)]
    simp (disch := first | omega | decide) only [jaU_eq, jaU_U, nI_add, pk_mul, jaIx_nI, vp_inT, true_and, and_true, ↓jaO0, ↓jaO1, nI_z, nI_z2, nI_z3, nI_z4, nI_z5, nI_lt', nI_le', nI_eq', jaUI_at, jaPt_eq, jaPt_ne, jaUI_o, jaUI_2, jaUL_at, jaUL_o, jaUL_1, jaB_z, jaB_1, ↓jaB_01, Classical.not_not, and_self, true_or, or_true, nI_11, Nat.reduceEqDiff, Nat.reduceAdd, Nat.reduceMul, Nat.add_zero, Nat.zero_add, Nat.mul_zero, not_true_eq_false, not_false_eq_true, false_implies, true_implies, x2]
    rfl
  · rw [f1.s 76 (by decide) (by decide)]
    simp (disch := first | omega | decide) only [jaU_eq, jaU_U, nI_add, pk_mul, jaIx_nI, vp_inT, true_and, and_true, ↓jaO0, ↓jaO1, nI_z, nI_z2, nI_z3, nI_z4, nI_z5, nI_lt', nI_le', nI_eq', jaUI_at, jaPt_eq, jaPt_ne, jaUI_o, jaUI_2, jaUL_at, jaUL_o, jaUL_1, jaB_z, jaB_1, ↓jaB_01, Classical.not_not, and_self, true_or, or_true, nI_11, Nat.reduceEqDiff, Nat.reduceAdd, Nat.reduceMul, Nat.add_zero, Nat.zero_add, Nat.mul_zero, not_true_eq_false, not_false_eq_true, false_implies, true_implies, x3]
    rfl
theorem jf_odds {x1 x2 : Int32} : jFc jy_A_odds jy_M_odds [.inl x1, .inl x2] := by
  intro σ hI
  have hR := hI.R
  have hW : jW3 (jIx (σ 20)) := hI.W
  have ht : jz (jIx (σ 20)).1 31 ≤ 1000 := hI.2.1.2.2.1
  by_cases c : ∃ N, 1 ≤ N ∧ N ≤ 10 ∧ x1 = nI N
  · obtain ⟨N, h1, h10, rfl⟩ := c
    have hQ : ∀ S2 v, v = nI (jaCnt (jYs (jIx (σ 20)) x2 (min 30 (1000 - jz (jIx (σ 20)).1 31))) N) → jaDe 12 jy_M_odds [jaMo, .inl (nI N), .inl x2] (jaU σ 2 S2) (jaKi fun b σ2 => v = b ∧ jI σ2) := by
      intro S2 v hv
      have e : jaU σ 2 S2 20 = σ 20 := jaU_ne (by decide)
      refine jm_odds (jI_2 hI) h1 h10 (fun S' h' => ⟨?_, h'⟩)
      rw [e]
      exact hv
    have hQ0 : ∀ v, v = nI (jaCnt (jYs (jIx (σ 20)) x2 (min 30 (1000 - jz (jIx (σ 20)).1 31))) N) → jaDe 12 jy_M_odds [jaMo, .inl (nI N), .inl x2] σ (jaKi fun b σ2 => v = b ∧ jI σ2) := fun v hv => by
      have := hQ (σ 2) v hv
      rwa [jaU_self] at this
    generalize hx : jIx (σ 20) = x at *
    have hR : jR (σ 1) x := by rw [← hx]; exact hR
    generalize hn : min 30 (1000 - jz x.1 31) = n at *
    have Y := fun r => jYo_W (x := x) (z := x2) (n := n) hW (by omega) r
    apply js_A_odds
    refine ⟨fun y => absurd y (by rw [nI_lt' (by omega) (by omega)]; omega), fun _ => ⟨fun _ => ?_, fun y => absurd (by rw [nI_le' (by omega) (by omega)]; omega) y⟩⟩
    refine jaAk (k := 2) (B := σ 2) (P := fun τ => jc_A_odds_3 32 (fun a σ1 => jaDe 12 jy_M_odds [jaMo, .inl (nI N), .inl x2] σ1 (jaKi fun b σ2 => a = b ∧ jI σ2)) (nI N) x2 (nI 0) (nI 0) τ) rfl ?_
    refine jaFor (C := fun r => ∀ S', jc_A_odds_3 32 (fun a σ1 => jaDe 12 jy_M_odds [jaMo, .inl (nI N), .inl x2] σ1 (jaKi fun b σ2 => a = b ∧ jI σ2)) (nI N) x2 (nI (jaCnt (jYs x x2 n) r)) (nI r) (jaU σ 2 S')) (N := N) ?_ (fun r hr ih => ?_) (σ 2)
    · intro S'
      apply jb_A_odds_3
      exact ⟨fun _ => hQ S' _ rfl, fun y => absurd (by rw [nI_le' (by omega) (by omega)]; omega) y⟩
    · intro S'
      obtain ⟨w1, w2, w3, w4⟩ := Y r
      have hRr : jR (σ 1) (jYo x x2 n r) := by
        have : jYo x x2 n r = (x.1, (jYo x x2 n r).2.1, (jYo x x2 n r).2.2) := by rw [← w2]
        rw [this]
        exact jR_g (s := x.1) (d := x.2.1) (e := x.2.2) hR hW w3 w4
      have ht' : jz (jYo x x2 n r).1 31 ≤ 1000 := by
        rw [w2]
        exact ht
      have hm : min 30 (1000 - jz (jYo x x2 n r).1 31) = n := by
        rw [w2]
        exact hn
      apply jb_A_odds_3
      refine ⟨fun y => absurd y (by rw [nI_le' (by omega) (by omega)]; omega), fun _ => ?_⟩
      refine sp_St_copyFrom (s := (jYo x x2 n r).1) (d := (jYo x x2 n r).2.1) (e := (jYo x x2 n r).2.2) (by omega) (by decide) rfl hRr w1 (fun S1 r1 _ _ => ?_)
      refine sp_St_drawTicks (x := jYo x x2 n r) (by omega) r1 w1 (by omega) ht' (fun S2 r2 _ => ?_)
      rw [hm] at r2
      obtain ⟨v1, -, -⟩ := jvDs_W (x := jYo x x2 n r) (z := x2 + nI r) w1 n (by rw [w2]; omega)
      refine sp_St_isSame (s := (jvDs (jYo x x2 n r, x2 + nI r) n).1.1) (d := (jvDs (jYo x x2 n r, x2 + nI r) n).1.2.1) (e := (jvDs (jYo x x2 n r, x2 + nI r) n).1.2.2) (by omega) r2 v1 ⟨fun y => ?_, fun y => ?_⟩
      · rw [jaB_z] at y
        have := ih S2
        rw [jaCnt_f (p := jYs x x2 n) y] at this
        rw [nI_add]
        exact this
      · rw [jaB_z, Classical.not_not] at y
        have := ih S2
        rw [jaCnt_t (p := jYs x x2 n) y] at this
        rw [nI_add, nI_add]
        exact this
  · have N : jaDe 12 jy_M_odds [jaMo, .inl x1, .inl x2] σ (jaKi fun b σ2 => (-1 : Int32) = b ∧ jI σ2) := by
      apply js_M_odds
      refine sp_M_isIn (by omega) ?_
      rw [jaB_f (fun z => c ?_)]
      · exact ⟨fun z => absurd rfl z, fun _ => ⟨rfl, jI_0 hI⟩⟩
      · have h0 : ¬ x1 < 0 := fun y => z.1 (by
          rw [Int32.lt_iff_toInt_lt] at y ⊢
          rw [show (nI 1).toInt = 1 by decide]
          rw [show (0 : Int32).toInt = 0 by decide] at y
          omega)
        obtain ⟨q, q1, rfl⟩ := jxOf h0
        rw [nI_lt' (by omega) (by omega), nI_lt' (by omega) (by omega)] at z
        exact ⟨q, by omega, by omega, rfl⟩
    apply js_A_odds
    refine ⟨fun _ => N, fun y => ⟨fun z => absurd ?_ c, fun _ => N⟩⟩
    have h0 : ¬ x1 < 0 := fun u => y (by
      rw [Int32.lt_iff_toInt_lt] at u ⊢
      rw [show (nI 1).toInt = 1 by decide]
      rw [show (0 : Int32).toInt = 0 by decide] at u
      omega)
    obtain ⟨q, q1, rfl⟩ := jxOf h0
    rw [nI_lt' (by omega) (by omega)] at y
    rw [nI_le' (by omega) (by omega)] at z
    exact ⟨q, by omega, by omega, rfl⟩
end
