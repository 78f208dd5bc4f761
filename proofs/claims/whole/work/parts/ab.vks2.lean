section
/-! key of the reference -/
theorem jgKey_4 {s : jvA} {q w : Nat} (hw : w < 4) : s (jaN 0 [5, 15, 475, 455] w + q) = jaIf1 (w = 0) (s (5 + q)) (jaIf1 (w = 1) (s (15 + q)) (jaIf1 (w = 2) (s (475 + q)) (s (455 + q)))) := by
  have : w = 0 ∨ w = 1 ∨ w = 2 ∨ w = 3 := by omega
  rcases this with rfl | rfl | rfl | rfl
  · rw [jaIf1_t rfl]; rfl
  · rw [jaIf1_f (by decide), jaIf1_t rfl]; rfl
  · rw [jaIf1_f (by decide), jaIf1_f (by decide), jaIf1_t rfl]; rfl
  · rw [jaIf1_f (by decide), jaIf1_f (by decide), jaIf1_f (by decide)]; rfl
set_option maxHeartbeats 1000000 in
theorem jg_M_key {τ : jaT} (hI : jI τ) {x1 x2 : Int32} {kk : Int32 → jaT → Prop} (h : ∀ v B, jgKey ((τ 20).1 72 0) x1 x2 v → jI (jaU τ 20 B) → B.1 70 0 0 = nI 0 → kk v (jaU τ 20 B)) (hn : (¬ ∃ v, jgKey ((τ 20).1 72 0) x1 x2 v) → ∀ B, jI (jaU τ 20 B) → B.1 70 0 0 = nI 1 → kk (nI 0) (jaU τ 20 B)) : jaDe 12 jy_M_key [jaMo, .inl x1, .inl x2] τ (jaKi kk) := by
  have hW := hI.W
  have hK := hW.w.2.1
  have N : ∀ (P : jaT → Prop), (¬ ∃ v, jgKey ((τ 20).1 72 0) x1 x2 v) → jaDe 11 jy_M_throwsIf [jaMo, .inl (nI 1)] τ (jaKi fun r4 σ3 => (r4 = 0 → P σ3) ∧ (¬ r4 = 0 → kk (nI 0) σ3)) := fun P z => sp_M_throwsIf (by omega) (by omega) ⟨fun y => absurd y (by decide), fun _ => hn z _ (jI_0 hI) (by simp (disch := first | omega | decide) only [jaU_eq, jaU_U, nI_add, pk_mul, jaIx_nI, vp_inT, true_and, and_true, ↓jaO0, ↓jaO1, nI_z, nI_z2, nI_z3, nI_z4, nI_z5, nI_lt', nI_le', nI_eq', jaUI_at, jaPt_eq, jaPt_ne, jaUI_o, jaUI_2, jaUL_at, jaUL_o, jaUL_1, jaB_z, jaB_1, ↓jaB_01, Classical.not_not, and_self, true_or, or_true, nI_11, Nat.reduceEqDiff, Nat.reduceAdd, Nat.reduceMul, Nat.add_zero, Nat.zero_add, Nat.mul_zero, not_true_eq_false, not_false_eq_true, false_implies, true_implies])⟩
  refine js_M_key ?_
  refine jaAk (k := 20) (B := τ 20) (P := fun τ' => jaDe 11 jy_M_isKey [jaMo, .inl x1] τ' (jaKi _)) rfl ?_
  refine sp_M_isKey (s := (τ 20).1 72 0) (by omega) rfl hK.1 (by omega) ?_
  rw [jaU_self]
  refine ⟨fun z => ?_, fun z => ?_⟩
  · rw [jaB_z] at z
    exact N _ (fun ⟨v, q, w, h1, h2, h3, _⟩ => z ⟨q, h1, h3⟩)
  · rw [jaB_z, Classical.not_not] at z
    obtain ⟨q, hq, rfl⟩ := z
    refine sp_M_isIn (by omega) ?_
    refine ⟨fun z => ?_, fun z => ?_⟩
    · rw [jaB_z] at z
      refine N _ (fun ⟨v, q', w, h1, h2, h3, h4, _⟩ => z ?_)
      rw [h4, show (nI 0 : Int32) = nI 0 from rfl, nI_lt' (by omega) (by omega), nI_lt' (by omega) (by omega)]
      omega
    · rw [jaB_z, Classical.not_not] at z
      obtain ⟨w, hw, rfl⟩ : ∃ w, w < 4 ∧ x2 = nI w := by
        obtain ⟨a, b⟩ := z
        obtain ⟨w, h1, rfl⟩ := jxOf (show ¬ x2 < 0 from a)
        rw [nI_lt' (by omega) (by omega)] at b
        exact ⟨w, by omega, rfl⟩
      -- the answer
      have A : (w = 3 → jaBt ((τ 20).1 72 0 39) q) → ∀ S, S = jaUI (τ 20) 70 0 0 (nI 0) → (¬ (nI w) = 0 → (¬ (nI w) = (nI 1) → (¬ (nI w) = (nI 2) → vp_in ((nI 455) + nI q) 706 ∧ kk ((jaU τ 20 S 20).1 72 0 (jaIx ((nI 455) + nI q))) (jaU τ 20 S)) ∧ ((nI w) = (nI 2) → vp_in ((nI 475) + nI q) 706 ∧ kk ((jaU τ 20 S 20).1 72 0 (jaIx ((nI 475) + nI q))) (jaU τ 20 S))) ∧ ((nI w) = (nI 1) → vp_in ((nI 15) + nI q) 706 ∧ kk ((jaU τ 20 S 20).1 72 0 (jaIx ((nI 15) + nI q))) (jaU τ 20 S))) ∧ ((nI w) = 0 → vp_in ((nI 5) + nI q) 706 ∧ kk ((jaU τ 20 S 20).1 72 0 (jaIx ((nI 5) + nI q))) (jaU τ 20 S)) := by
        rintro hb S rfl
        have hv := h _ (jaUI (τ 20) 70 0 0 (nI 0)) ⟨q, w, hq, hw, rfl, rfl, hb, rfl⟩ (jI_0 hI) (by simp (disch := first | omega | decide) only [jaU_eq, jaU_U, nI_add, pk_mul, jaIx_nI, vp_inT, true_and, and_true, ↓jaO0, ↓jaO1, nI_z, nI_z2, nI_z3, nI_z4, nI_z5, nI_lt', nI_le', nI_eq', jaUI_at, jaPt_eq, jaPt_ne, jaUI_o, jaUI_2, jaUL_at, jaUL_o, jaUL_1, jaB_z, jaB_1, ↓jaB_01, Classical.not_not, and_self, true_or, or_true, nI_11, Nat.reduceEqDiff, Nat.reduceAdd, Nat.reduceMul, Nat.add_zero, Nat.zero_add, Nat.mul_zero, not_true_eq_false, not_false_eq_true, false_implies, true_implies])
        rw [jgKey_4 (s := (τ 20).1 72 0) (q := q) hw] at hv
        have h10 := hK.2
        have : w = 0 ∨ w = 1 ∨ w = 2 ∨ w = 3 := by omega
        rcases this with rfl | rfl | rfl | rfl
        · rw [jaIf1_t rfl] at hv
          refine ⟨fun z => absurd rfl z, fun _ => ?_⟩
          simp (disch := first | omega | decide) only [jaU_eq, jaU_U, nI_add, pk_mul, jaIx_nI, vp_inT, true_and, and_true, ↓jaO0, ↓jaO1, nI_z, nI_z2, nI_z3, nI_z4, nI_z5, nI_lt', nI_le', nI_eq', jaUI_at, jaPt_eq, jaPt_ne, jaUI_o, jaUI_2, jaUL_at, jaUL_o, jaUL_1, jaB_z, jaB_1, ↓jaB_01, Classical.not_not, and_self, true_or, or_true, nI_11, Nat.reduceEqDiff, Nat.reduceAdd, Nat.reduceMul, Nat.add_zero, Nat.zero_add, Nat.mul_zero, not_true_eq_false, not_false_eq_true, false_implies, true_implies]
          exact hv
        · rw [jaIf1_f (by decide), jaIf1_t rfl] at hv
          refine ⟨fun _ => ⟨fun z => absurd rfl z, fun _ => ?_⟩, fun z => absurd z (by decide)⟩
          simp (disch := first | omega | decide) only [jaU_eq, jaU_U, nI_add, pk_mul, jaIx_nI, vp_inT, true_and, and_true, ↓jaO0, ↓jaO1, nI_z, nI_z2, nI_z3, nI_z4, nI_z5, nI_lt', nI_le', nI_eq', jaUI_at, jaPt_eq, jaPt_ne, jaUI_o, jaUI_2, jaUL_at, jaUL_o, jaUL_1, jaB_z, jaB_1, ↓jaB_01, Classical.not_not, and_self, true_or, or_true, nI_11, Nat.reduceEqDiff, Nat.reduceAdd, Nat.reduceMul, Nat.add_zero, Nat.zero_add, Nat.mul_zero, not_true_eq_false, not_false_eq_true, false_implies, true_implies]
          exact hv
        · rw [jaIf1_f (by decide), jaIf1_f (by decide), jaIf1_t rfl] at hv
          refine ⟨fun _ => ⟨fun _ => ⟨fun z => absurd rfl z, fun _ => ?_⟩, fun z => absurd z (by decide)⟩, fun z => absurd z (by decide)⟩
          simp (disch := first | omega | decide) only [jaU_eq, jaU_U, nI_add, pk_mul, jaIx_nI, vp_inT, true_and, and_true, ↓jaO0, ↓jaO1, nI_z, nI_z2, nI_z3, nI_z4, nI_z5, nI_lt', nI_le', nI_eq', jaUI_at, jaPt_eq, jaPt_ne, jaUI_o, jaUI_2, jaUL_at, jaUL_o, jaUL_1, jaB_z, jaB_1, ↓jaB_01, Classical.not_not, and_self, true_or, or_true, nI_11, Nat.reduceEqDiff, Nat.reduceAdd, Nat.reduceMul, Nat.add_zero, Nat.zero_add, Nat.mul_zero, not_true_eq_false, not_false_eq_true, false_implies, true_implies]
          exact hv
        · rw [jaIf1_f (by decide), jaIf1_f (by decide), jaIf1_f (by decide)] at hv
          refine ⟨fun _ => ⟨fun _ => ⟨fun _ => ?_, fun z => absurd z (by decide)⟩, fun z => absurd z (by decide)⟩, fun z => absurd z (by decide)⟩
          simp (disch := first | omega | decide) only [jaU_eq, jaU_U, nI_add, pk_mul, jaIx_nI, vp_inT, true_and, and_true, ↓jaO0, ↓jaO1, nI_z, nI_z2, nI_z3, nI_z4, nI_z5, nI_lt', nI_le', nI_eq', jaUI_at, jaPt_eq, jaPt_ne, jaUI_o, jaUI_2, jaUL_at, jaUL_o, jaUL_1, jaB_z, jaB_1, ↓jaB_01, Classical.not_not, and_self, true_or, or_true, nI_11, Nat.reduceEqDiff, Nat.reduceAdd, Nat.reduceMul, Nat.add_zero, Nat.zero_add, Nat.mul_zero, not_true_eq_false, not_false_eq_true, false_implies, true_implies]
          exact hv
      refine ⟨fun z => ?_, fun z => ?_⟩
      · exact sp_M_throwsIf (b := 0) (by omega) (by omega) ⟨fun _ => A (fun e => absurd (by rw [e]) z) _ rfl, fun y => absurd rfl y⟩
      · have w3 : w = 3 := by rwa [nI_eq' (by omega) (by omega)] at z
        refine ⟨vp_in_nI (by decide) (by decide), ?_⟩
        have e39 : jaIx (nI 39) = 39 := jaIx_nI (by omega)
        rw [e39]
        refine sp_M_bitOf (by omega) ?_
        refine ⟨fun y => ?_, fun y => ?_⟩
        · rw [jaB_z, Classical.not_not] at y
          exact sp_M_throwsIf (b := 0) (by omega) (by omega) ⟨fun _ => A (fun _ => y) _ rfl, fun y => absurd rfl y⟩
        · rw [jaB_z] at y
          refine N _ (fun ⟨v, q', w', h1, h2, h3, h4, h5, _⟩ => y ?_)
          rw [nI_eq' (by omega) (by have := hK.2; omega)] at h3
          rw [nI_eq' (by omega) (by omega)] at h4
          rw [h3]
          exact h5 (by omega)
end
section
/-! value, key, serial of the class -/
set_option maxRecDepth 20000 in
theorem jg_A_value {σ : jaT} (hI : jI σ) {x1 x2 : Int32} {Q : jaQ} {X : jaX} (hq : ∀ v, jgVal ((σ 20).1 72 0) x1 x2 v → Q (some (.inl v)) σ) (hx : (¬ ∃ v, jgVal ((σ 20).1 72 0) x1 x2 v) → X (jaAt jf_A_value jp_A_value 1) [some jcA, some (.inl x1), some (.inl x2)] [] σ) :
    jaRun jaAr (jaDe 32) jf_A_value jp_A_value Q X (jaAt jf_A_value jp_A_value 0) [some jcA, some (.inl x1), some (.inl x2)] [] σ := by
  have hR := hI.R
  have hW := hI.W
  refine jaRun_go (jaCall_self jaAr jaMt 32) [] 40 _ _ _ _ (show (jaDe 32) jy_A_isCopy [.inr (.inr (0, 0, 0)), .inl x1] σ (jaKi fun r2 σ1 => (r2 = 0 → X (jaAt jf_A_value jp_A_value 1) [some jcA, some (.inl x1), some (.inl x2)] [] σ1) ∧ (¬ r2 = 0 → (jaDe 32) jy_A_isKey [.inr (.inr (0, 0, 0)), .inl x2] σ1 (jaKi fun r4 σ3 => (¬ r4 = 0 → vp_in x1 3 ∧ (vp_in x2 10 ∧ Q (some (.inl ((σ3 1).1 51 (jaIx x1) (jaIx x2)))) σ3)) ∧ (r4 = 0 → X (jaAt jf_A_value jp_A_value 1) [some jcA, some (.inl x1), some (.inl x2)] [] σ3)))) from ?_)
  refine sp_A_isCopy (by omega) hR hW ⟨fun z => ?_, fun z => sp_A_isKey (by omega) hR hW ⟨fun y => ?_, fun y => ?_⟩⟩
  · rw [jaB_z] at z
    exact hx (fun ⟨v, c, q, h1, h2, h3, h4, _⟩ => z ⟨c, h1, h3⟩)
  · rw [jaB_z, Classical.not_not] at z y
    obtain ⟨c, hc, rfl⟩ := z
    obtain ⟨q, hq', rfl⟩ := y
    have hc3 := hW.w.2.2.1.2.2
    have h10 := hW.w.2.1.2
    have e := (hR.c c hc).1 q hq'
    have e : (σ 1).1 51 c q = (σ 20).1 72 0 (145 + 10 * c + q) := e
    have hv := hq ((σ 20).1 72 0 (145 + 10 * c + q)) ⟨c, q, hc, hq', rfl, rfl, rfl⟩
    simp (disch := first | omega | decide) only [jaU_eq, jaU_U, nI_add, pk_mul, jaIx_nI, vp_inT, true_and, and_true, ↓jaO0, ↓jaO1, nI_z, nI_z2, nI_z3, nI_z4, nI_z5, nI_lt', nI_le', nI_eq', jaUI_at, jaPt_eq, jaPt_ne, jaUI_o, jaUI_2, jaUL_at, jaUL_o, jaUL_1, jaB_z, jaB_1, ↓jaB_01, Classical.not_not, and_self, true_or, or_true, nI_11, Nat.reduceEqDiff, Nat.reduceAdd, Nat.reduceMul, Nat.add_zero, Nat.zero_add, Nat.mul_zero, not_true_eq_false, not_false_eq_true, false_implies, true_implies, e]
    exact hv
  · rw [jaB_z] at y
    exact hx (fun ⟨v, c, q, h1, h2, h3, h4, _⟩ => y ⟨q, h2, h4⟩)
theorem jg_A_serial {σ : jaT} (hI : jI σ) {x1 : Int32} {Q : jaQ} {X : jaX} (hq : ∀ v S', jgSer ((σ 20).1 72 0) ((σ 20).1 75 0) ((σ 20).1 76 0) x1 v → jI (jaU σ 1 S') → Q (some (.inl v)) (jaU σ 1 S')) (hx : (¬ ∃ v, jgSer ((σ 20).1 72 0) ((σ 20).1 75 0) ((σ 20).1 76 0) x1 v) → X (jf_A_serial.drop 4) [some jcA, some (.inl x1)] [] σ) :
    jaRun jaAr (jaDe 32) jf_A_serial jp_A_serial Q X (jaAt jf_A_serial jp_A_serial 0) [some jcA, some (.inl x1)] [] σ := by
  have hR := hI.R
  have hW := hI.W
  refine jaRun_go (jaCall_self jaAr jaMt 32) [] 40 _ _ _ _ (show (jaDe 32) jy_A_isKey [.inr (.inr (0, 0, 0)), .inl x1] σ (jaKi fun r2 σ1 => (¬ r2 = 0 → (jaDe 32) jy_St_valueSerially [.inr (.inr (40, 1, 0)), .inl x1] σ1 (jaKi fun r4 σ3 => Q (some (.inl r4)) σ3)) ∧ (r2 = 0 → X (jf_A_serial.drop 4) [some jcA, some (.inl x1)] [] σ1)) from ?_)
  refine sp_A_isKey (by omega) hR hW ⟨fun y => ?_, fun y => ?_⟩
  · rw [jaB_z, Classical.not_not] at y
    obtain ⟨q, hq', rfl⟩ := y
    rw [jaAs (τ := σ) (k := 1) rfl]
    refine sp_St_valueSerially (r := fun q => (σ 20).1 72 0 (15 + q)) (by omega) hR hW hq' (fun _ _ => rfl) (fun S' f => ?_)
    exact hq _ S' ⟨q, hq', rfl, rfl⟩ (jI_1 hI (fun o h1 h2 _ => f.s o (by simp [h1, h2])) f.2)
  · rw [jaB_z] at y
    exact hx (fun ⟨v, q, h1, h2, _⟩ => y ⟨q, h1, h2⟩)
set_option maxRecDepth 20000 in
set_option maxHeartbeats 1000000 in
theorem jg_A_key {σ : jaT} (hI : jI σ) {x1 x2 : Int32} {Q : jaQ} {X : jaX} (hq : ∀ v, jgKey ((σ 20).1 72 0) x1 x2 v → Q (some (.inl v)) σ) (hx : (¬ ∃ v, jgKey ((σ 20).1 72 0) x1 x2 v) → X (jaAt jf_A_key jp_A_key 1) [some jcA, some (.inl x1), some (.inl x2)] [] σ) :
    jaRun jaAr (jaDe 32) jf_A_key jp_A_key Q X (jaAt jf_A_key jp_A_key 0) [some jcA, some (.inl x1), some (.inl x2)] [] σ := by
  have hR := hI.R
  have hW := hI.W
  have hK := hW.w.2.1
  -- the end
  have E : ∀ q w, q < jz ((σ 20).1 72 0) 1 → w < 4 → x1 = nI q → x2 = nI w → (w = 3 → jaBt ((σ 20).1 72 0 39) q) → (x2.toInt < 0 ∨ 2 < x2.toInt → vp_in x1 10 ∧ Q (some (.inl ((σ 1).1 45 0 (jaIx x1)))) σ) ∧ (x2 = nI 0 → vp_in x1 10 ∧ Q (some (.inl ((σ 1).1 31 0 (jaIx x1)))) σ) ∧ (x2 = nI 1 → vp_in x1 10 ∧ Q (some (.inl ((σ 1).1 32 0 (jaIx x1)))) σ) ∧ (x2 = nI 2 → vp_in x1 10 ∧ Q (some (.inl ((σ 1).1 47 0 (jaIx x1)))) σ) ∧ True := by
    rintro q w hq' hw rfl rfl hb
    have h10 := hK.2
    have hv := hq _ ⟨q, w, hq', hw, rfl, rfl, hb, rfl⟩
    rw [jgKey_4 (s := (σ 20).1 72 0) (q := q) hw] at hv
    have e31 : (σ 1).1 31 0 q = (σ 20).1 72 0 (5 + q) := (hR.w.2.1 q hq').1
    have e32 : (σ 1).1 32 0 q = (σ 20).1 72 0 (15 + q) := (hR.w.2.1 q hq').2
    have e47 : (σ 1).1 47 0 q = (σ 20).1 72 0 (475 + q) := hR.k.2.2.2.1 q hq'
    have : w = 0 ∨ w = 1 ∨ w = 2 ∨ w = 3 := by omega
    rcases this with rfl | rfl | rfl | rfl
    · rw [jaIf1_t rfl] at hv
      refine ⟨fun z => absurd z (by decide), fun _ => ?_, fun z => absurd z (by decide), fun z => absurd z (by decide), trivial⟩
      simp (disch := first | omega | decide) only [jaU_eq, jaU_U, nI_add, pk_mul, jaIx_nI, vp_inT, true_and, and_true, ↓jaO0, ↓jaO1, nI_z, nI_z2, nI_z3, nI_z4, nI_z5, nI_lt', nI_le', nI_eq', jaUI_at, jaPt_eq, jaPt_ne, jaUI_o, jaUI_2, jaUL_at, jaUL_o, jaUL_1, jaB_z, jaB_1, ↓jaB_01, Classical.not_not, and_self, true_or, or_true, nI_11, Nat.reduceEqDiff, Nat.reduceAdd, Nat.reduceMul, Nat.add_zero, Nat.zero_add, Nat.mul_zero, not_true_eq_false, not_false_eq_true, false_implies, true_implies, e31]
      exact hv
    · rw [jaIf1_f (by decide), jaIf1_t rfl] at hv
      refine ⟨fun z => absurd z (by decide), fun z => absurd z (by decide), fun _ => ?_, fun z => absurd z (by decide), trivial⟩
      simp (disch := first | omega | decide) only [jaU_eq, jaU_U, nI_add, pk_mul, jaIx_nI, vp_inT, true_and, and_true, ↓jaO0, ↓jaO1, nI_z, nI_z2, nI_z3, nI_z4, nI_z5, nI_lt', nI_le', nI_eq', jaUI_at, jaPt_eq, jaPt_ne, jaUI_o, jaUI_2, jaUL_at, jaUL_o, jaUL_1, jaB_z, jaB_1, ↓jaB_01, Classical.not_not, and_self, true_or, or_true, nI_11, Nat.reduceEqDiff, Nat.reduceAdd, Nat.reduceMul, Nat.add_zero, Nat.zero_add, Nat.mul_zero, not_true_eq_false, not_false_eq_true, false_implies, true_implies, e32]
      exact hv
    · rw [jaIf1_f (by decide), jaIf1_f (by decide), jaIf1_t rfl] at hv
      refine ⟨fun z => absurd z (by decide), fun z => absurd z (by decide), fun z => absurd z (by decide), fun _ => ?_, trivial⟩
      simp (disch := first | omega | decide) only [jaU_eq, jaU_U, nI_add, pk_mul, jaIx_nI, vp_inT, true_and, and_true, ↓jaO0, ↓jaO1, nI_z, nI_z2, nI_z3, nI_z4, nI_z5, nI_lt', nI_le', nI_eq', jaUI_at, jaPt_eq, jaPt_ne, jaUI_o, jaUI_2, jaUL_at, jaUL_o, jaUL_1, jaB_z, jaB_1, ↓jaB_01, Classical.not_not, and_self, true_or, or_true, nI_11, Nat.reduceEqDiff, Nat.reduceAdd, Nat.reduceMul, Nat.add_zero, Nat.zero_add, Nat.mul_zero, not_true_eq_false, not_false_eq_true, false_implies, true_implies, e47]
      exact hv
    · rw [jaIf1_f (by decide), jaIf1_f (by decide), jaIf1_f (by decide)] at hv
      refine ⟨fun _ => ?_, fun z => absurd z (by decide), fun z => absurd z (by decide), fun z => absurd z (by decide), trivial⟩
      have e45 : (σ 1).1 45 0 q = (σ 20).1 72 0 (455 + q) := by
        have b := hb rfl
        rcases hW.k.1 with ⟨-, -, -, k0⟩ | ⟨k1, -⟩
        · rw [k0] at b
          exact absurd b (jaBt_0 (by omega))
        · exact (hR.k.2.1 k1).2.1 q hq' b
      simp (disch := first | omega | decide) only [jaU_eq, jaU_U, nI_add, pk_mul, jaIx_nI, vp_inT, true_and, and_true, ↓jaO0, ↓jaO1, nI_z, nI_z2, nI_z3, nI_z4, nI_z5, nI_lt', nI_le', nI_eq', jaUI_at, jaPt_eq, jaPt_ne, jaUI_o, jaUI_2, jaUL_at, jaUL_o, jaUL_1, jaB_z, jaB_1, ↓jaB_01, Classical.not_not, and_self, true_or, or_true, nI_11, Nat.reduceEqDiff, Nat.reduceAdd, Nat.reduceMul, Nat.add_zero, Nat.zero_add, Nat.mul_zero, not_true_eq_false, not_false_eq_true, false_implies, true_implies, e45]
      exact hv
  refine jaRun_go (jaCall_self jaAr jaMt 32) [] 80 _ _ _ _ (show (jaDe 32) jy_A_isKey [.inr (.inr (0, 0, 0)), .inl x1] σ (jaKi fun r2 σ1 => (r2 = 0 → X (jaAt jf_A_key jp_A_key 1) [some jcA, some (.inl x1), some (.inl x2)] [] σ1) ∧ (¬ r2 = 0 → (x2 < 0 → X (jaAt jf_A_key jp_A_key 1) [some jcA, some (.inl x1), some (.inl x2)] [] σ1) ∧ (¬ x2 < 0 → (nI 3 < x2 → X (jaAt jf_A_key jp_A_key 1) [some jcA, some (.inl x1), some (.inl x2)] [] σ1) ∧ (¬ nI 3 < x2 → (¬ x2 = nI 3 → (x2.toInt < 0 ∨ 2 < x2.toInt → vp_in x1 10 ∧ Q (some (.inl ((σ1 1).1 45 0 (jaIx x1)))) σ1) ∧ (x2 = nI 0 → vp_in x1 10 ∧ Q (some (.inl ((σ1 1).1 31 0 (jaIx x1)))) σ1) ∧ (x2 = nI 1 → vp_in x1 10 ∧ Q (some (.inl ((σ1 1).1 32 0 (jaIx x1)))) σ1) ∧ (x2 = nI 2 → vp_in x1 10 ∧ Q (some (.inl ((σ1 1).1 47 0 (jaIx x1)))) σ1) ∧ True) ∧ (x2 = nI 3 → (jaDe 32) jy_Ck_hasTwin [.inr (.inr (44, 1, 0)), .inl x1] σ1 (jaKi fun r4 σ3 => (¬ r4 = 0 → (x2.toInt < 0 ∨ 2 < x2.toInt → vp_in x1 10 ∧ Q (some (.inl ((σ3 1).1 45 0 (jaIx x1)))) σ3) ∧ (x2 = nI 0 → vp_in x1 10 ∧ Q (some (.inl ((σ3 1).1 31 0 (jaIx x1)))) σ3) ∧ (x2 = nI 1 → vp_in x1 10 ∧ Q (some (.inl ((σ3 1).1 32 0 (jaIx x1)))) σ3) ∧ (x2 = nI 2 → vp_in x1 10 ∧ Q (some (.inl ((σ3 1).1 47 0 (jaIx x1)))) σ3) ∧ True) ∧ (r4 = 0 → X (jaAt jf_A_key jp_A_key 1) [some jcA, some (.inl x1), some (.inl x2)] [] σ3))))))) from ?_)
  refine sp_A_isKey (by omega) hR hW ⟨fun y => ?_, fun y => ⟨fun z => ?_, fun z => ⟨fun z2 => ?_, fun z2 => ⟨fun z3 => ?_, fun z3 => ?_⟩⟩⟩⟩
  · rw [jaB_z] at y
    exact hx (fun ⟨v, q, w, h1, h2, h3, h4, _⟩ => y ⟨q, h1, h3⟩)
  · refine hx (fun ⟨v, q, w, h1, h2, h3, h4, _⟩ => ?_)
    rw [h4, show (0 : Int32) = nI 0 from rfl, nI_lt' (by omega) (by omega)] at z
    omega
  · refine hx (fun ⟨v, q, w, h1, h2, h3, h4, _⟩ => ?_)
    rw [h4, nI_lt' (by omega) (by omega)] at z2
    omega
  · rw [jaB_z, Classical.not_not] at y
    obtain ⟨q, hq', e1⟩ := y
    obtain ⟨w, h1, e2⟩ := jxOf z
    rw [e2, nI_lt' (by omega) (by omega)] at z2
    refine E q w hq' (by omega) e1 e2 (fun e => absurd (by rw [e2, e]) z3)
  · rw [jaB_z, Classical.not_not] at y
    obtain ⟨q, hq', e1⟩ := y
    subst e1
    subst z3
    have h10 := hK.2
    have hq32 : q < 32 := by omega
    refine jaAk (k := 1) (B := σ 1) (P := fun τ' => jaDe 32 jy_Ck_hasTwin [.inr (.inr (44, 1, 0)), .inl (nI q)] τ' (jaKi _)) rfl ?_
    refine sp_Ck_hasTwin (by omega) hq32 ?_
    rw [jaU_self]
    have b : (¬ (σ 1).1 44 0 0 = 0 ∧ jaBt ((σ 1).1 44 0 3) q) ↔ jaBt ((σ 20).1 72 0 39) q := by
      have e0 : (σ 1).1 44 0 0 = (σ 20).1 72 0 36 := hR.k.1
      rcases hW.k.1 with ⟨k36, -, -, k0⟩ | ⟨k1, -⟩
      · rw [e0, k36, k0]
        exact ⟨fun z => absurd rfl z.1, fun z => absurd z (jaBt_0 (by omega))⟩
      · have e3 : (σ 1).1 44 0 3 = (σ 20).1 72 0 39 := (hR.k.2.1 k1).1.2.2
        rw [e0, e3, k1]
        exact ⟨fun z => z.2, fun z => ⟨by decide, z⟩⟩
    rw [jaB_c b]
    refine ⟨fun z => ?_, fun z => ?_⟩
    · rw [jaB_z, Classical.not_not] at z
      exact E q 3 hq' (by omega) rfl rfl (fun _ => z)
    · rw [jaB_z] at z
      refine hx (fun ⟨v, q', w, h1, h2, h3, h4, h5, _⟩ => z ?_)
      rw [nI_eq' (by omega) (by omega)] at h3 h4
      rw [h3]
      exact h5 h4.symm
end
