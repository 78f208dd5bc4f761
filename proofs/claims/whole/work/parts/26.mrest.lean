section
/-! going by rows that are alike where there are keys -/
theorem jvKey_lt {K a : Nat} {d e : jvA} {id p : Nat} (hf : jWf K a d p) (he : ∀ j, j < a → e (9 * id + 5 + j) = nI (jz e (9 * id + 5 + j)) ∧ jz e (9 * id + 5 + j) < K) (ha : a ≤ 4) (hK : K ≤ 10) : jaIx (jvKey d e id p) < K := by
  obtain ⟨q, h1, h2⟩ := jvKey_n hf he ha
  rw [h2, jaIx_nI (by omega)]
  exact h1
theorem jvTm_c {K a : Nat} {d e v v' : jvA} {id u : Nat} (hu : jWu K a d u) (he : ∀ j, j < a → e (9 * id + 5 + j) = nI (jz e (9 * id + 5 + j)) ∧ jz e (9 * id + 5 + j) < K) (ha : a ≤ 4) (hK : K ≤ 10) (hv : ∀ q, q < K → v q = v' q) : jvTm d e id v u = jvTm d e id v' u := by
  unfold jvTm
  rcases hu.1 with h | h
  · rw [jaIf1_t (show d u = 0 from h.1), jaIf1_t (show d u = 0 from h.1)]
  · rw [hv _ (jvKey_lt h.2 he ha hK)]
theorem jvSum_c {K a : Nat} {d e v v' : jvA} {id t : Nat} (ht : ∀ x, x < jz d (t + 4) → jWu K a d (t + 5 + 4 * x)) (he : ∀ j, j < a → e (9 * id + 5 + j) = nI (jz e (9 * id + 5 + j)) ∧ jz e (9 * id + 5 + j) < K) (ha : a ≤ 4) (hK : K ≤ 10) (hv : ∀ q, q < K → v q = v' q) : ∀ n, n ≤ jz d (t + 4) → jvSum d e id v t n = jvSum d e id v' t n
  | 0, _ => by unfold jvSum; rfl
  | n + 1, hn => by
    show jvSum d e id v t n + jvTm d e id v (t + 5 + 4 * n) = jvSum d e id v' t n + jvTm d e id v' (t + 5 + 4 * n)
    rw [jvSum_c ht he ha hK hv n (by omega), jvTm_c (ht n (by omega)) he ha hK hv]
theorem jvSts_c {K a N : Nat} {d e : jvA} {id b : Nat} (hds : ∀ i, i < N → jWt K a d (b + 7 + 21 * i)) (he : ∀ j, j < a → e (9 * id + 5 + j) = nI (jz e (9 * id + 5 + j)) ∧ jz e (9 * id + 5 + j) < K) (ha : a ≤ 4) (hK : K ≤ 10) : ∀ (m k : Nat) (v v' : jvA) (w : Int32), k + m ≤ N → (∀ q, q < K → v q = v' q) →
    (jvSts d e id b m k v w = none ∧ jvSts d e id b m k v' w = none) ∨ ∃ x x' w1, jvSts d e id b m k v w = some (x, w1) ∧ jvSts d e id b m k v' w = some (x', w1) ∧ (∀ q, q < K → x q = x' q) ∧ (∀ q, K ≤ q → x q = v q) ∧ (∀ q, K ≤ q → x' q = v' q)
  | 0, k, v, v', w, _, hv => Or.inr ⟨v, v', w, rfl, rfl, hv, fun _ _ => rfl, fun _ _ => rfl⟩
  | m + 1, k, v, v', w, hk, hv => by
    obtain ⟨h0, h1, h2, h3, h4⟩ := hds k (by omega)
    have hz := jvKey_lt h1 he ha hK
    rw [jvSts_s, jvSts_s, jvSum_c h4 he ha hK hv _ (Nat.le_refl _), hv _ hz]
    generalize jaIx (jvKey d e id (b + 7 + 21 * k + 1)) = z at *
    generalize jvSum d e id v' (b + 7 + 21 * k) (jz d (b + 7 + 21 * k + 4)) = sm
    by_cases q1 : d (b + 7 + 21 * k) = nI 1
    · rw [jaIf1_t q1, jaIf1_t q1]
      by_cases q2 : jvOk (d (b + 7 + 21 * k + 3)) (v' z) sm
      · rw [jaIf1_t q2, jaIf1_t q2]
        exact jvSts_c hds he ha hK m (k + 1) v v' w (by omega) hv
      · rw [jaIf1_f q2, jaIf1_f q2]
        exact Or.inl ⟨rfl, rfl⟩
    · rw [jaIf1_f q1, jaIf1_f q1]
      rcases jvSts_c hds he ha hK m (k + 1) (jaPt v z sm) (jaPt v' z sm) (w ||| jaMk (jvKey d e id (b + 7 + 21 * k + 1))) (by omega) (fun q hq => by unfold jaPt; split; rfl; exact hv q hq) with x | ⟨x, x', w1, e1, e2, e3, e4, e5⟩
      · exact Or.inl x
      · exact Or.inr ⟨x, x', w1, e1, e2, e3, fun q hq => by rw [e4 q hq, jaPt_ne (by omega)], fun q hq => by rw [e5 q hq, jaPt_ne (by omega)]⟩
theorem jvAg_c {K : Nat} {row row' d e : jvA} {id b n : Nat} (hda : ∀ j, j < n → jz d (b + 3 + j) < K) (hv : ∀ q, q < K → row q = row' q) {k : Int32} : jvAg row d e k id b n ↔ jvAg row' d e k id b n := by
  constructor
  · rintro ⟨j, h1, h2⟩
    exact ⟨j, h1, by rw [← hv _ (hda j h1)]; exact h2⟩
  · rintro ⟨j, h1, h2⟩
    exact ⟨j, h1, by rw [hv _ (hda j h1)]; exact h2⟩
/-- by rows alike one goes alike -/
theorem jvGo_c {m K : Nat} {row row' d e : jvA} {k : Int32} {id : Nat} (hi : jWi K m d e id) (hn : jWn K d (jz e (9 * id))) (hK : K ≤ 10) (hv : ∀ q, q < K → row q = row' q) :
    (jvGo row d e k id).1 = (jvGo row' d e k id).1 ∧ (jvGo row d e k id).2.2 = (jvGo row' d e k id).2.2 ∧ (∀ q, q < K → (jvGo row d e k id).2.1 q = (jvGo row' d e k id).2.1 q) ∧ (∀ q, K ≤ q → (jvGo row d e k id).2.1 q = row q) := by
  obtain ⟨hk1, hd0, hd1, hd2, hda, hds⟩ := hn
  simp only [jvGo]
  have hag := jvAg_c (row := row) (row' := row') (d := d) (e := e) (id := id) (b := 133 * jz e (9 * id)) (n := jz d (133 * jz e (9 * id) + 2)) (k := k) (fun j hj => (hda j hj).2) hv
  by_cases q : jvAg row d e k id (133 * jz e (9 * id)) (jz d (133 * jz e (9 * id) + 2))
  · rw [jaIf1_t q, jaIf1_t (hag.mp q)]
    exact ⟨rfl, rfl, hv, fun _ _ => rfl⟩
  · rw [jaIf1_f q, jaIf1_f (fun x => q (hag.mpr x))]
    rcases jvSts_c hds hi.2.2.1 hd2.2 hK (jz d (133 * jz e (9 * id) + 1)) 0 row row' (nI 0) (by omega) hv with ⟨e1, e2⟩ | ⟨x, x', w1, e1, e2, e3, e4, e5⟩
    · rw [e1, e2]
      exact ⟨rfl, rfl, hv, fun _ _ => rfl⟩
    · rw [e1, e2]
      exact ⟨rfl, rfl, e3, e4⟩
/-! one behind the other -/
noncomputable def jvSr1 (s d e : jvA) (i : Nat) (r : jvA) : jvA := jaIf1 ((jvGo r d e (s 1) (jvId s i)).1 = nI 2) (jvGo r d e (s 1) (jvId s i)).2.1 r
noncomputable def jvSr (s d e r : jvA) : Nat → jvA := jaRec (jvSr1 s d e) r
theorem sp_M_serialFirst {D : Nat} (hD : 1 ≤ D) {kk : jaT → Prop} {σ : jaT} {S : jaS} {s r : jvA} (hs : S.1 72 0 = s) (hr : S.1 81 0 = r) (h : ∀ S', S'.1 81 0 = jvCp r 0 s 15 10 → jaFr [81] [] S S' → kk (jaU σ 20 S')) : jaDe D jy_M_serialFirst [jaMo] (jaU σ 20 S) (jaKv kk) := by
  obtain ⟨D, rfl, hD⟩ := jaSuc hD
  apply js_M_serialFirst
  refine jaFor (C := fun k => ∀ S', S'.1 81 0 = jvCp r 0 s 15 k → jaFr [81] [] S S' → jc_M_serialFirst_1 D kk (nI k) (jaU σ 20 S')) (N := 10) ?_ (fun k hk ih => ?_) S (by rw [jvCp_0, hr]) jaFr.rfl
  · intro S' a f
    apply jb_M_serialFirst_1
    simp (disch := first | omega | decide) only [jaU_eq, jaU_U, nI_add, pk_mul, jaIx_nI, vp_inT, true_and, and_true, ↓jaO0, ↓jaO1, nI_z, nI_z2, nI_z3, nI_z4, nI_z5, nI_lt', nI_le', nI_eq', jaUI_at, jaPt_eq, jaPt_ne, jaUI_o, jaUI_2, jaUL_at, jaUL_o, jaUL_1, jaB_z, jaB_1, ↓jaB_01, Classical.not_not, and_self, true_or, or_true, nI_11, Nat.reduceEqDiff, Nat.reduceAdd, Nat.reduceMul, Nat.add_zero, Nat.zero_add, Nat.mul_zero, not_true_eq_false, not_false_eq_true, false_implies, true_implies]
    refine ⟨fun _ => ?_, fun q => absurd (by omega) q⟩
    exact h S' a f
  · intro S' a f
    apply jb_M_serialFirst_1
    simp (disch := first | omega | decide) only [jaU_eq, jaU_U, nI_add, pk_mul, jaIx_nI, vp_inT, true_and, and_true, ↓jaO0, ↓jaO1, nI_z, nI_z2, nI_z3, nI_z4, nI_z5, nI_lt', nI_le', nI_eq', jaUI_at, jaPt_eq, jaPt_ne, jaUI_o, jaUI_2, jaUL_at, jaUL_o, jaUL_1, jaB_z, jaB_1, ↓jaB_01, Classical.not_not, and_self, true_or, or_true, nI_11, Nat.reduceEqDiff, Nat.reduceAdd, Nat.reduceMul, Nat.add_zero, Nat.zero_add, Nat.mul_zero, not_true_eq_false, not_false_eq_true, false_implies, true_implies, ((congrFun (f.s 72 (by decide) (by decide)) 0).trans hs)]
    refine ⟨fun q => absurd q (by omega), fun _ => ?_⟩
    refine ih _ ?_ ?_
    · simp (disch := first | omega | decide) only [jaU_eq, jaU_U, nI_add, pk_mul, jaIx_nI, vp_inT, true_and, and_true, ↓jaO0, ↓jaO1, nI_z, nI_z2, nI_z3, nI_z4, nI_z5, nI_lt', nI_le', nI_eq', jaUI_at, jaPt_eq, jaPt_ne, jaUI_o, jaUI_2, jaUL_at, jaUL_o, jaUL_1, jaB_z, jaB_1, ↓jaB_01, Classical.not_not, and_self, true_or, or_true, nI_11, Nat.reduceEqDiff, Nat.reduceAdd, Nat.reduceMul, Nat.add_zero, Nat.zero_add, Nat.mul_zero, not_true_eq_false, not_false_eq_true, false_implies, true_implies, a]
      rw [jvCp_s, Nat.zero_add]
    · (repeat' first | assumption | exact jaFr.rfl | refine jaFr.ui ?_ (by decide) (by decide) | refine jaFr.uf ?_ (by decide) | exact jaFr.mono (by assumption) (by decide) (by decide))
set_option maxHeartbeats 1000000 in
theorem sp_M_serialNext {D : Nat} (hD : 5 ≤ D) {kk : jaT → Prop} {σ : jaT} {S : jaS} {s d e r : jvA} (hs : S.1 72 0 = s) (hd : S.1 75 0 = d) (he : S.1 76 0 = e) (hr : S.1 81 0 = r) (hW : jW s d e) {i : Nat} (hi : i < jz s 34) (h : ∀ S', S'.1 81 0 = jvSr1 s d e i r → jaFr [80, 81] [29] S S' → kk (jaU σ 20 S')) : jaDe D jy_M_serialNext [jaMo, .inl (nI i)] (jaU σ 20 S) (jaKv kk) := by
  obtain ⟨D, rfl, hD⟩ := jaSuc hD
  have hO := hW.O
  have hM := hW.o.many.2
  obtain ⟨hid, hid'⟩ := hW.o.id hi
  have hP := hW.o.pool.2
  have hrow := hW.e _ hid'
  obtain ⟨⟨hn, hn'⟩, hsite, hfe, hws, hwide⟩ := hW.e _ hid'
  have hwn := hW.d _ hn'
  obtain ⟨hK, hK'⟩ := hW.w.2.1
  apply js_M_serialNext
  apply sp_M_idAt (by omega) hs (by omega)
  rw [hid]
  have hII2 : jvId s i = jz s (41 + i) := rfl
  generalize hII : jz s (41 + i) = id at *
  have e0 : (fun k => r (0 + k)) = r := by
    funext k
    rw [Nat.zero_add]
  refine sp_M_goesBy_81 (f := 0) (by omega) hs hd he hr (by omega) (by omega) hK hK' hn (by omega) hwn hfe ?_
  rw [e0]
  intro S1 hF1 hg1
  unfold jvSr1 at h
  rw [hK, hII2] at h
  have hge := (jvGo_c (row := r) (row' := r) (k := nI (jz s 1)) hrow hwn hK' (fun _ _ => rfl)).2.2.2
  generalize jvGo r d e (nI (jz s 1)) id = g at *
  obtain ⟨how, v, w⟩ := g
  have hF1' : jaFr [80, 81] [29] S S1 := hF1.mono (by decide) (by decide)
  refine ⟨fun q => ?_, fun q => ?_⟩
  · rw [jaIf1_t q] at h
    obtain ⟨g1, g2⟩ := hg1 v w (by have q : how = nI 2 := q; rw [q])
    refine jaFor (C := fun k => ∀ S', (∀ j, S'.1 81 0 j = jaIf1 (j < k) (v j) (r j)) → S'.1 70 0 29 = w → S'.1 80 0 = S1.1 80 0 → jaFr [80, 81] [29] S S' → jc_M_serialNext_2 D kk (nI i) (nI k) (jaU σ 20 S')) (N := jz s 1) ?_ (fun k hk ih => ?_) S1 (fun j => by rw [((congrFun (hF1.s 81 (by decide) (by decide)) 0).trans hr), jaIf1_f (by omega)]) g1 rfl hF1'
    · intro S' a b c f
      apply jb_M_serialNext_2
      simp (disch := first | omega | decide) only [jaU_eq, jaU_U, nI_add, pk_mul, jaIx_nI, vp_inT, true_and, and_true, ↓jaO0, ↓jaO1, nI_z, nI_z2, nI_z3, nI_z4, nI_z5, nI_lt', nI_le', nI_eq', jaUI_at, jaPt_eq, jaPt_ne, jaUI_o, jaUI_2, jaUL_at, jaUL_o, jaUL_1, jaB_z, jaB_1, ↓jaB_01, Classical.not_not, and_self, true_or, or_true, nI_11, Nat.reduceEqDiff, Nat.reduceAdd, Nat.reduceMul, Nat.add_zero, Nat.zero_add, Nat.mul_zero, not_true_eq_false, not_false_eq_true, false_implies, true_implies, ((congrFun (f.s 72 (by decide) (by decide)) 0).trans hs)]
      rw [hK]
      simp (disch := first | omega | decide) only [jaU_eq, jaU_U, nI_add, pk_mul, jaIx_nI, vp_inT, true_and, and_true, ↓jaO0, ↓jaO1, nI_z, nI_z2, nI_z3, nI_z4, nI_z5, nI_lt', nI_le', nI_eq', jaUI_at, jaPt_eq, jaPt_ne, jaUI_o, jaUI_2, jaUL_at, jaUL_o, jaUL_1, jaB_z, jaB_1, ↓jaB_01, Classical.not_not, and_self, true_or, or_true, nI_11, Nat.reduceEqDiff, Nat.reduceAdd, Nat.reduceMul, Nat.add_zero, Nat.zero_add, Nat.mul_zero, not_true_eq_false, not_false_eq_true, false_implies, true_implies]
      refine ⟨fun _ => ?_, fun q => absurd (by omega) q⟩
      refine h S' (funext fun j => ?_) f
      rw [a]
      by_cases q2 : j < jz s 1
      · rw [jaIf1_t q2]
      · rw [jaIf1_f q2]
        exact (hge j (by omega)).symm
    · intro S' a b c f
      apply jb_M_serialNext_2
      simp (disch := first | omega | decide) only [jaU_eq, jaU_U, nI_add, pk_mul, jaIx_nI, vp_inT, true_and, and_true, ↓jaO0, ↓jaO1, nI_z, nI_z2, nI_z3, nI_z4, nI_z5, nI_lt', nI_le', nI_eq', jaUI_at, jaPt_eq, jaPt_ne, jaUI_o, jaUI_2, jaUL_at, jaUL_o, jaUL_1, jaB_z, jaB_1, ↓jaB_01, Classical.not_not, and_self, true_or, or_true, nI_11, Nat.reduceEqDiff, Nat.reduceAdd, Nat.reduceMul, Nat.add_zero, Nat.zero_add, Nat.mul_zero, not_true_eq_false, not_false_eq_true, false_implies, true_implies, ((congrFun (f.s 72 (by decide) (by decide)) 0).trans hs)]
      rw [hK]
      simp (disch := first | omega | decide) only [jaU_eq, jaU_U, nI_add, pk_mul, jaIx_nI, vp_inT, true_and, and_true, ↓jaO0, ↓jaO1, nI_z, nI_z2, nI_z3, nI_z4, nI_z5, nI_lt', nI_le', nI_eq', jaUI_at, jaPt_eq, jaPt_ne, jaUI_o, jaUI_2, jaUL_at, jaUL_o, jaUL_1, jaB_z, jaB_1, ↓jaB_01, Classical.not_not, and_self, true_or, or_true, nI_11, Nat.reduceEqDiff, Nat.reduceAdd, Nat.reduceMul, Nat.add_zero, Nat.zero_add, Nat.mul_zero, not_true_eq_false, not_false_eq_true, false_implies, true_implies, b]
      refine ⟨fun q => absurd q (by omega), fun _ => ?_⟩
      refine sp_M_bitOf (by omega) ?_
      have gk := g2 k (by omega)
      rw [Nat.zero_add] at gk
      simp (disch := first | omega | decide) only [jaU_eq, jaU_U, nI_add, pk_mul, jaIx_nI, vp_inT, true_and, and_true, ↓jaO0, ↓jaO1, nI_z, nI_z2, nI_z3, nI_z4, nI_z5, nI_lt', nI_le', nI_eq', jaUI_at, jaPt_eq, jaPt_ne, jaUI_o, jaUI_2, jaUL_at, jaUL_o, jaUL_1, jaB_z, jaB_1, ↓jaB_01, Classical.not_not, and_self, true_or, or_true, nI_11, Nat.reduceEqDiff, Nat.reduceAdd, Nat.reduceMul, Nat.add_zero, Nat.zero_add, Nat.mul_zero, not_true_eq_false, not_false_eq_true, false_implies, true_implies, c]
      refine ⟨fun q2 => ?_, fun q2 => ?_⟩
      · rw [jaIf1_f q2] at gk
        refine ih S' (fun j => ?_) b c f
        rw [a]
        by_cases e1 : j = k
        · rw [e1, jaIf1_f (by omega), jaIf1_t (by omega), gk]
        · by_cases e2 : j < k
          · rw [jaIf1_t e2, jaIf1_t (by omega)]
          · rw [jaIf1_f e2, jaIf1_f (by omega)]
      · rw [jaIf1_t q2] at gk
        refine ih _ (fun j => ?_) ?_ ?_ ?_
        · simp (disch := first | omega | decide) only [jaU_eq, jaU_U, nI_add, pk_mul, jaIx_nI, vp_inT, true_and, and_true, ↓jaO0, ↓jaO1, nI_z, nI_z2, nI_z3, nI_z4, nI_z5, nI_lt', nI_le', nI_eq', jaUI_at, jaPt_eq, jaPt_ne, jaUI_o, jaUI_2, jaUL_at, jaUL_o, jaUL_1, jaB_z, jaB_1, ↓jaB_01, Classical.not_not, and_self, true_or, or_true, nI_11, Nat.reduceEqDiff, Nat.reduceAdd, Nat.reduceMul, Nat.add_zero, Nat.zero_add, Nat.mul_zero, not_true_eq_false, not_false_eq_true, false_implies, true_implies]
          by_cases e1 : j = k
          · rw [e1, jaPt_eq, jaIf1_t (by omega), gk]
          · rw [jaPt_ne e1, a]
            by_cases e2 : j < k
            · rw [jaIf1_t e2, jaIf1_t (by omega)]
            · rw [jaIf1_f e2, jaIf1_f (by omega)]
        · simp (disch := first | omega | decide) only [jaU_eq, jaU_U, nI_add, pk_mul, jaIx_nI, vp_inT, true_and, and_true, ↓jaO0, ↓jaO1, nI_z, nI_z2, nI_z3, nI_z4, nI_z5, nI_lt', nI_le', nI_eq', jaUI_at, jaPt_eq, jaPt_ne, jaUI_o, jaUI_2, jaUL_at, jaUL_o, jaUL_1, jaB_z, jaB_1, ↓jaB_01, Classical.not_not, and_self, true_or, or_true, nI_11, Nat.reduceEqDiff, Nat.reduceAdd, Nat.reduceMul, Nat.add_zero, Nat.zero_add, Nat.mul_zero, not_true_eq_false, not_false_eq_true, false_implies, true_implies, b]
        · simp (disch := first | omega | decide) only [jaU_eq, jaU_U, nI_add, pk_mul, jaIx_nI, vp_inT, true_and, and_true, ↓jaO0, ↓jaO1, nI_z, nI_z2, nI_z3, nI_z4, nI_z5, nI_lt', nI_le', nI_eq', jaUI_at, jaPt_eq, jaPt_ne, jaUI_o, jaUI_2, jaUL_at, jaUL_o, jaUL_1, jaB_z, jaB_1, ↓jaB_01, Classical.not_not, and_self, true_or, or_true, nI_11, Nat.reduceEqDiff, Nat.reduceAdd, Nat.reduceMul, Nat.add_zero, Nat.zero_add, Nat.mul_zero, not_true_eq_false, not_false_eq_true, false_implies, true_implies, c]
        · (repeat' first | assumption | exact jaFr.rfl | refine jaFr.ui ?_ (by decide) (by decide) | refine jaFr.uf ?_ (by decide) | exact jaFr.mono (by assumption) (by decide) (by decide))
  · rw [jaIf1_f q] at h
    exact h S1 ((congrFun (hF1.s 81 (by decide) (by decide)) 0).trans hr) hF1'
/-! alike, all over -/
def jvSame (s : jvA) : Prop := ∀ c, c < jz s 2 → jvAo s c (jz s 34) ∧ ∀ k, k < jz s 1 → s (145 + 10 * c + k) = s (145 + k)
theorem sp_M_areSame {D : Nat} (hD : 4 ≤ D) {kk : Int32 → jaT → Prop} {σ : jaT} {S : jaS} {s d e : jvA} (hs : S.1 72 0 = s) (hW : jW s d e) (h : kk (jaB (jvSame s)) (jaU σ 20 S)) : jaDe D jy_M_areSame [jaMo] (jaU σ 20 S) (jaKi kk) := by
  obtain ⟨D, rfl, hD⟩ := jaSuc hD
  obtain ⟨hC, hC1, hC3⟩ := hW.w.2.2.1
  obtain ⟨hK, hK'⟩ := hW.w.2.1
  have hO := hW.o.ord
  apply js_M_areSame
  have L : ∀ m c (P : Prop) u, c + m = jz s 2 → (P ↔ ∀ c', c' < c → jvAo s c' (jz s 34) ∧ ∀ k, k < jz s 1 → s (145 + 10 * c' + k) = s (145 + k)) → jc_M_areSame_1 D kk (jaB P) (nI c) u (jaU σ 20 S) := by
    intro m
    induction m with
    | zero =>
      intro c P u hc hP
      apply jb_M_areSame_1
      simp (disch := first | omega | decide) only [jaU_eq, jaU_U, nI_add, pk_mul, jaIx_nI, vp_inT, true_and, and_true, ↓jaO0, ↓jaO1, nI_z, nI_z2, nI_z3, nI_z4, nI_z5, nI_lt', nI_le', nI_eq', jaUI_at, jaPt_eq, jaPt_ne, jaUI_o, jaUI_2, jaUL_at, jaUL_o, jaUL_1, jaB_z, jaB_1, ↓jaB_01, Classical.not_not, and_self, true_or, or_true, nI_11, Nat.reduceEqDiff, Nat.reduceAdd, Nat.reduceMul, Nat.add_zero, Nat.zero_add, Nat.mul_zero, not_true_eq_false, not_false_eq_true, false_implies, true_implies, hs]
      rw [hC]
      simp (disch := first | omega | decide) only [jaU_eq, jaU_U, nI_add, pk_mul, jaIx_nI, vp_inT, true_and, and_true, ↓jaO0, ↓jaO1, nI_z, nI_z2, nI_z3, nI_z4, nI_z5, nI_lt', nI_le', nI_eq', jaUI_at, jaPt_eq, jaPt_ne, jaUI_o, jaUI_2, jaUL_at, jaUL_o, jaUL_1, jaB_z, jaB_1, ↓jaB_01, Classical.not_not, and_self, true_or, or_true, nI_11, Nat.reduceEqDiff, Nat.reduceAdd, Nat.reduceMul, Nat.add_zero, Nat.zero_add, Nat.mul_zero, not_true_eq_false, not_false_eq_true, false_implies, true_implies]
      refine ⟨fun _ => ?_, fun q => absurd (by omega) q⟩
      rw [jaB_c (q := jvSame s) (hP.trans (by rw [show c = jz s 2 by omega]; exact Iff.rfl))]
      exact h
    | succ m ih =>
      intro c P u hc hP
      have L4 : ∀ n k (Q : Prop), k + n = jz s 1 → (Q ↔ P ∧ jvAo s c (jz s 34) ∧ ∀ k', k' < k → s (145 + 10 * c + k') = s (145 + k')) → jc_M_areSame_4 D kk (jaB Q) (nI c) (nI k) (jaU σ 20 S) := by
        intro n
        induction n with
        | zero =>
          intro k Q hk hQ
          apply jb_M_areSame_4
          simp (disch := first | omega | decide) only [jaU_eq, jaU_U, nI_add, pk_mul, jaIx_nI, vp_inT, true_and, and_true, ↓jaO0, ↓jaO1, nI_z, nI_z2, nI_z3, nI_z4, nI_z5, nI_lt', nI_le', nI_eq', jaUI_at, jaPt_eq, jaPt_ne, jaUI_o, jaUI_2, jaUL_at, jaUL_o, jaUL_1, jaB_z, jaB_1, ↓jaB_01, Classical.not_not, and_self, true_or, or_true, nI_11, Nat.reduceEqDiff, Nat.reduceAdd, Nat.reduceMul, Nat.add_zero, Nat.zero_add, Nat.mul_zero, not_true_eq_false, not_false_eq_true, false_implies, true_implies, hs]
          rw [hK]
          simp (disch := first | omega | decide) only [jaU_eq, jaU_U, nI_add, pk_mul, jaIx_nI, vp_inT, true_and, and_true, ↓jaO0, ↓jaO1, nI_z, nI_z2, nI_z3, nI_z4, nI_z5, nI_lt', nI_le', nI_eq', jaUI_at, jaPt_eq, jaPt_ne, jaUI_o, jaUI_2, jaUL_at, jaUL_o, jaUL_1, jaB_z, jaB_1, ↓jaB_01, Classical.not_not, and_self, true_or, or_true, nI_11, Nat.reduceEqDiff, Nat.reduceAdd, Nat.reduceMul, Nat.add_zero, Nat.zero_add, Nat.mul_zero, not_true_eq_false, not_false_eq_true, false_implies, true_implies]
          refine ⟨fun _ => ?_, fun q => absurd (by omega) q⟩
          refine ih (c + 1) Q _ (by omega) (hQ.trans ?_)
          rw [hP, show k = jz s 1 by omega]
          refine ⟨fun x c' hc' => if e : c' = c then (by rw [e]; exact x.2) else x.1 c' (by omega), fun x => ⟨fun c' hc' => x c' (by omega), x c (by omega)⟩⟩
        | succ n ih4 =>
          intro k Q hk hQ
          apply jb_M_areSame_4
          simp (disch := first | omega | decide) only [jaU_eq, jaU_U, nI_add, pk_mul, jaIx_nI, vp_inT, true_and, and_true, ↓jaO0, ↓jaO1, nI_z, nI_z2, nI_z3, nI_z4, nI_z5, nI_lt', nI_le', nI_eq', jaUI_at, jaPt_eq, jaPt_ne, jaUI_o, jaUI_2, jaUL_at, jaUL_o, jaUL_1, jaB_z, jaB_1, ↓jaB_01, Classical.not_not, and_self, true_or, or_true, nI_11, Nat.reduceEqDiff, Nat.reduceAdd, Nat.reduceMul, Nat.add_zero, Nat.zero_add, Nat.mul_zero, not_true_eq_false, not_false_eq_true, false_implies, true_implies, hs]
          rw [hK]
          simp (disch := first | omega | decide) only [jaU_eq, jaU_U, nI_add, pk_mul, jaIx_nI, vp_inT, true_and, and_true, ↓jaO0, ↓jaO1, nI_z, nI_z2, nI_z3, nI_z4, nI_z5, nI_lt', nI_le', nI_eq', jaUI_at, jaPt_eq, jaPt_ne, jaUI_o, jaUI_2, jaUL_at, jaUL_o, jaUL_1, jaB_z, jaB_1, ↓jaB_01, Classical.not_not, and_self, true_or, or_true, nI_11, Nat.reduceEqDiff, Nat.reduceAdd, Nat.reduceMul, Nat.add_zero, Nat.zero_add, Nat.mul_zero, not_true_eq_false, not_false_eq_true, false_implies, true_implies]
          refine ⟨fun q => absurd q (by omega), fun _ => ?_⟩
          refine ⟨fun q => ?_, fun q => ⟨fun q2 => ?_, fun q2 => ?_⟩⟩
          · rw [← jaB_f (p := False) (fun x => x)]
            exact ih4 (k + 1) False (by omega) ⟨fun x => x.elim, fun x => q (hQ.mpr ⟨x.1, x.2.1, fun k' hk' => x.2.2 k' (by omega)⟩)⟩
          · rw [← jaB_f (p := False) (fun x => x)]
            exact ih4 (k + 1) False (by omega) ⟨fun x => x.elim, fun x => q2 (x.2.2 k (by omega))⟩
          · rw [← jaB_t (p := True) trivial]
            refine ih4 (k + 1) True (by omega) ⟨fun _ => ⟨(hQ.mp q).1, (hQ.mp q).2.1, fun k' hk' => if e : k' = k then (by rw [e]; exact q2) else (hQ.mp q).2.2 k' (by omega)⟩, fun _ => trivial⟩
      apply jb_M_areSame_1
      simp (disch := first | omega | decide) only [jaU_eq, jaU_U, nI_add, pk_mul, jaIx_nI, vp_inT, true_and, and_true, ↓jaO0, ↓jaO1, nI_z, nI_z2, nI_z3, nI_z4, nI_z5, nI_lt', nI_le', nI_eq', jaUI_at, jaPt_eq, jaPt_ne, jaUI_o, jaUI_2, jaUL_at, jaUL_o, jaUL_1, jaB_z, jaB_1, ↓jaB_01, Classical.not_not, and_self, true_or, or_true, nI_11, Nat.reduceEqDiff, Nat.reduceAdd, Nat.reduceMul, Nat.add_zero, Nat.zero_add, Nat.mul_zero, not_true_eq_false, not_false_eq_true, false_implies, true_implies, hs]
      rw [hC]
      simp (disch := first | omega | decide) only [jaU_eq, jaU_U, nI_add, pk_mul, jaIx_nI, vp_inT, true_and, and_true, ↓jaO0, ↓jaO1, nI_z, nI_z2, nI_z3, nI_z4, nI_z5, nI_lt', nI_le', nI_eq', jaUI_at, jaPt_eq, jaPt_ne, jaUI_o, jaUI_2, jaUL_at, jaUL_o, jaUL_1, jaB_z, jaB_1, ↓jaB_01, Classical.not_not, and_self, true_or, or_true, nI_11, Nat.reduceEqDiff, Nat.reduceAdd, Nat.reduceMul, Nat.add_zero, Nat.zero_add, Nat.mul_zero, not_true_eq_false, not_false_eq_true, false_implies, true_implies]
      refine ⟨fun q => absurd q (by omega), fun _ => ?_⟩
      refine ⟨fun q => ?_, fun q => ?_⟩
      · have z := L4 (jz s 1) 0 False (by omega) ⟨fun x => x.elim, fun x => q x.1⟩
        rw [jaB_f (p := False) (fun x => x)] at z
        exact z
      · rw [hO.1]
        refine sp_M_areOver (by omega) hs (by omega) hO.2 ?_
        simp (disch := first | omega | decide) only [jaU_eq, jaU_U, nI_add, pk_mul, jaIx_nI, vp_inT, true_and, and_true, ↓jaO0, ↓jaO1, nI_z, nI_z2, nI_z3, nI_z4, nI_z5, nI_lt', nI_le', nI_eq', jaUI_at, jaPt_eq, jaPt_ne, jaUI_o, jaUI_2, jaUL_at, jaUL_o, jaUL_1, jaB_z, jaB_1, ↓jaB_01, Classical.not_not, and_self, true_or, or_true, nI_11, Nat.reduceEqDiff, Nat.reduceAdd, Nat.reduceMul, Nat.add_zero, Nat.zero_add, Nat.mul_zero, not_true_eq_false, not_false_eq_true, false_implies, true_implies]
        refine ⟨fun q2 => ?_, fun q2 => ?_⟩
        · have z := L4 (jz s 1) 0 False (by omega) ⟨fun x => x.elim, fun x => q2 x.2.1⟩
          rw [jaB_f (p := False) (fun x => x)] at z
          exact z
        · rw [← jaB_t (p := True) trivial]
          exact L4 (jz s 1) 0 True (by omega) ⟨fun _ => ⟨q, q2, fun k' hk' => absurd hk' (by omega)⟩, fun _ => trivial⟩
  rw [← jaB_t (p := True) trivial]
  exact L (jz s 2) 0 True _ (by omega) ⟨fun _ c' hc' => absurd hc' (by omega), fun _ => trivial⟩
def jvAll (s : jvA) : Prop := jz s 35 = 0 ∧ ∀ c, c < jz s 2 → jvAo s c (jz s 34)
theorem sp_M_isAllOver {D : Nat} (hD : 4 ≤ D) {kk : Int32 → jaT → Prop} {σ : jaT} {S : jaS} {s d e : jvA} (hs : S.1 72 0 = s) (hW : jW s d e) (h : kk (jaB (jvAll s)) (jaU σ 20 S)) : jaDe D jy_M_isAllOver [jaMo] (jaU σ 20 S) (jaKi kk) := by
  obtain ⟨D, rfl, hD⟩ := jaSuc hD
  obtain ⟨hC, hC1, hC3⟩ := hW.w.2.2.1
  have hO := hW.o.ord
  have h35 := hW.o.came
  apply js_M_isAllOver
  have L : ∀ m c (P : Prop), c + m = jz s 2 → (P ↔ jz s 35 = 0 ∧ ∀ c', c' < c → jvAo s c' (jz s 34)) → jc_M_isAllOver_3 D kk (jaB P) (nI c) (jaU σ 20 S) := by
    intro m
    induction m with
    | zero =>
      intro c P hc hP
      apply jb_M_isAllOver_3
      simp (disch := first | omega | decide) only [jaU_eq, jaU_U, nI_add, pk_mul, jaIx_nI, vp_inT, true_and, and_true, ↓jaO0, ↓jaO1, nI_z, nI_z2, nI_z3, nI_z4, nI_z5, nI_lt', nI_le', nI_eq', jaUI_at, jaPt_eq, jaPt_ne, jaUI_o, jaUI_2, jaUL_at, jaUL_o, jaUL_1, jaB_z, jaB_1, ↓jaB_01, Classical.not_not, and_self, true_or, or_true, nI_11, Nat.reduceEqDiff, Nat.reduceAdd, Nat.reduceMul, Nat.add_zero, Nat.zero_add, Nat.mul_zero, not_true_eq_false, not_false_eq_true, false_implies, true_implies, hs]
      rw [hC]
      simp (disch := first | omega | decide) only [jaU_eq, jaU_U, nI_add, pk_mul, jaIx_nI, vp_inT, true_and, and_true, ↓jaO0, ↓jaO1, nI_z, nI_z2, nI_z3, nI_z4, nI_z5, nI_lt', nI_le', nI_eq', jaUI_at, jaPt_eq, jaPt_ne, jaUI_o, jaUI_2, jaUL_at, jaUL_o, jaUL_1, jaB_z, jaB_1, ↓jaB_01, Classical.not_not, and_self, true_or, or_true, nI_11, Nat.reduceEqDiff, Nat.reduceAdd, Nat.reduceMul, Nat.add_zero, Nat.zero_add, Nat.mul_zero, not_true_eq_false, not_false_eq_true, false_implies, true_implies]
      refine ⟨fun _ => ?_, fun q => absurd (by omega) q⟩
      rw [jaB_c (q := jvAll s) (hP.trans (by rw [show c = jz s 2 by omega]; exact Iff.rfl))]
      exact h
    | succ m ih =>
      intro c P hc hP
      apply jb_M_isAllOver_3
      simp (disch := first | omega | decide) only [jaU_eq, jaU_U, nI_add, pk_mul, jaIx_nI, vp_inT, true_and, and_true, ↓jaO0, ↓jaO1, nI_z, nI_z2, nI_z3, nI_z4, nI_z5, nI_lt', nI_le', nI_eq', jaUI_at, jaPt_eq, jaPt_ne, jaUI_o, jaUI_2, jaUL_at, jaUL_o, jaUL_1, jaB_z, jaB_1, ↓jaB_01, Classical.not_not, and_self, true_or, or_true, nI_11, Nat.reduceEqDiff, Nat.reduceAdd, Nat.reduceMul, Nat.add_zero, Nat.zero_add, Nat.mul_zero, not_true_eq_false, not_false_eq_true, false_implies, true_implies, hs]
      rw [hC]
      simp (disch := first | omega | decide) only [jaU_eq, jaU_U, nI_add, pk_mul, jaIx_nI, vp_inT, true_and, and_true, ↓jaO0, ↓jaO1, nI_z, nI_z2, nI_z3, nI_z4, nI_z5, nI_lt', nI_le', nI_eq', jaUI_at, jaPt_eq, jaPt_ne, jaUI_o, jaUI_2, jaUL_at, jaUL_o, jaUL_1, jaB_z, jaB_1, ↓jaB_01, Classical.not_not, and_self, true_or, or_true, nI_11, Nat.reduceEqDiff, Nat.reduceAdd, Nat.reduceMul, Nat.add_zero, Nat.zero_add, Nat.mul_zero, not_true_eq_false, not_false_eq_true, false_implies, true_implies]
      refine ⟨fun q => absurd q (by omega), fun _ => ?_⟩
      refine ⟨fun q => ?_, fun q => ?_⟩
      · rw [← jaB_f (p := False) (fun x => x)]
        exact ih (c + 1) False (by omega) ⟨fun x => x.elim, fun x => q (hP.mpr ⟨x.1, fun c' hc' => x.2 c' (by omega)⟩)⟩
      · rw [hO.1]
        refine sp_M_areOver (by omega) hs (by omega) hO.2 ?_
        simp (disch := first | omega | decide) only [jaU_eq, jaU_U, nI_add, pk_mul, jaIx_nI, vp_inT, true_and, and_true, ↓jaO0, ↓jaO1, nI_z, nI_z2, nI_z3, nI_z4, nI_z5, nI_lt', nI_le', nI_eq', jaUI_at, jaPt_eq, jaPt_ne, jaUI_o, jaUI_2, jaUL_at, jaUL_o, jaUL_1, jaB_z, jaB_1, ↓jaB_01, Classical.not_not, and_self, true_or, or_true, nI_11, Nat.reduceEqDiff, Nat.reduceAdd, Nat.reduceMul, Nat.add_zero, Nat.zero_add, Nat.mul_zero, not_true_eq_false, not_false_eq_true, false_implies, true_implies]
        refine ⟨fun q2 => ?_, fun q2 => ?_⟩
        · rw [← jaB_f (p := False) (fun x => x)]
          exact ih (c + 1) False (by omega) ⟨fun x => x.elim, fun x => q2 (x.2 c (by omega))⟩
        · rw [← jaB_t (p := True) trivial]
          exact ih (c + 1) True (by omega) ⟨fun _ => ⟨(hP.mp q).1, fun c' hc' => if e : c' = c then (by rw [e]; exact q2) else (hP.mp q).2 c' (by omega)⟩, fun _ => trivial⟩
  simp (disch := first | omega | decide) only [jaU_eq, jaU_U, nI_add, pk_mul, jaIx_nI, vp_inT, true_and, and_true, ↓jaO0, ↓jaO1, nI_z, nI_z2, nI_z3, nI_z4, nI_z5, nI_lt', nI_le', nI_eq', jaUI_at, jaPt_eq, jaPt_ne, jaUI_o, jaUI_2, jaUL_at, jaUL_o, jaUL_1, jaB_z, jaB_1, ↓jaB_01, Classical.not_not, and_self, true_or, or_true, nI_11, Nat.reduceEqDiff, Nat.reduceAdd, Nat.reduceMul, Nat.add_zero, Nat.zero_add, Nat.mul_zero, not_true_eq_false, not_false_eq_true, false_implies, true_implies, hs]
  rw [h35.1]
  simp (disch := first | omega | decide) only [jaU_eq, jaU_U, nI_add, pk_mul, jaIx_nI, vp_inT, true_and, and_true, ↓jaO0, ↓jaO1, nI_z, nI_z2, nI_z3, nI_z4, nI_z5, nI_lt', nI_le', nI_eq', jaUI_at, jaPt_eq, jaPt_ne, jaUI_o, jaUI_2, jaUL_at, jaUL_o, jaUL_1, jaB_z, jaB_1, ↓jaB_01, Classical.not_not, and_self, true_or, or_true, nI_11, Nat.reduceEqDiff, Nat.reduceAdd, Nat.reduceMul, Nat.add_zero, Nat.zero_add, Nat.mul_zero, not_true_eq_false, not_false_eq_true, false_implies, true_implies]
  refine ⟨fun q => ?_, fun q => ?_⟩
  · have z := L (jz s 2) 0 False (by omega) ⟨fun x => x.elim, fun x => q x.1⟩
    rw [jaB_f (p := False) (fun x => x)] at z
    exact z
  · rw [← jaB_t (p := True) trivial]
    exact L (jz s 2) 0 True (by omega) ⟨fun _ => ⟨q, fun c' hc' => absurd hc' (by omega)⟩, fun _ => trivial⟩
/-! rows of conflicts -/
noncomputable def jvMx (C : Nat → Nat → Prop) (L : Nat → Nat) (i : Nat) : Nat → Nat := jaRec (fun j m => jaIf1 (C i j) (max m (L j)) m) 0
noncomputable def jvLa (C : Nat → Nat → Prop) (w : Nat → Nat) : Nat → (Nat → Nat) × Nat := jaRec (fun i y => (fun q => if q = i then jvMx C y.1 i i + 1 + w i else y.1 q, max y.2 (jvMx C y.1 i i + 1 + w i))) (fun _ => 0, 0)
theorem jvMx_le {C : Nat → Nat → Prop} {L : Nat → Nat} {i B : Nat} (h : ∀ q, L q ≤ B) : ∀ n, jvMx C L i n ≤ B
  | 0 => Nat.zero_le _
  | n + 1 => by
    have := jvMx_le h n (C := C) (i := i)
    have := h n
    show jaIf1 (C i n) (max (jvMx C L i n) (L n)) (jvMx C L i n) ≤ B
    unfold jaIf1
    split <;> omega
theorem jvLa_le {C : Nat → Nat → Prop} {w : Nat → Nat} (hw : ∀ i, w i ≤ 9) : ∀ n, (∀ q, (jvLa C w n).1 q ≤ 10 * n) ∧ (jvLa C w n).2 ≤ 10 * n
  | 0 => ⟨fun _ => Nat.le_refl _, Nat.le_refl _⟩
  | n + 1 => by
    obtain ⟨a, b⟩ := jvLa_le hw n (C := C)
    have hm := jvMx_le a n (C := C) (i := n)
    have hn := hw n
    refine ⟨fun q => ?_, ?_⟩
    · have := a q
      show (if q = n then jvMx C (jvLa C w n).1 n n + 1 + w n else (jvLa C w n).1 q) ≤ _
      split <;> omega
    · show max (jvLa C w n).2 (jvMx C (jvLa C w n).1 n n + 1 + w n) ≤ _
      omega
set_option maxHeartbeats 1000000 in
theorem sp_M_lays {D : Nat} (hD : 4 ≤ D) {kk : Int32 → jaT → Prop} {σ : jaT} {S : jaS} {s d e : jvA} (hs : S.1 72 0 = s) (he : S.1 76 0 = e) (hW : jW s d e) {b : Prop} (h : ∀ S', jaFr [85] [] S S' → kk (nI (jvLa (jvCf s e) (fun i => jaIf1 (b ∧ jvLg s e i) (jz s 4) 0) (jz s 34)).2) (jaU σ 20 S')) : jaDe D jy_M_lays [jaMo, .inl (jaB b)] (jaU σ 20 S) (jaKi kk) := by
  obtain ⟨D, rfl, hD⟩ := jaSuc hD
  have hO := hW.o.ord
  obtain ⟨h4, h4'⟩ := hW.w.2.2.2.2.1
  have hids := hW.o.ids
  have hwle : ∀ i, jaIf1 (b ∧ jvLg s e i) (jz s 4) 0 ≤ 9 := fun i => by
    unfold jaIf1
    split <;> omega
  have hw0 : ∀ i, ¬ b → jaIf1 (b ∧ jvLg s e i) (jz s 4) 0 = 0 := fun i q => jaIf1_f (fun x => q x.1)
  have hw1 : ∀ i, b → ¬ jvLg s e i → jaIf1 (b ∧ jvLg s e i) (jz s 4) 0 = 0 := fun i _ q => jaIf1_f (fun x => q x.2)
  have hw2 : ∀ i, b → jvLg s e i → jaIf1 (b ∧ jvLg s e i) (jz s 4) 0 = jz s 4 := fun i q1 q2 => jaIf1_t ⟨q1, q2⟩
  obtain ⟨w, hwd⟩ : ∃ w, w = fun i => jaIf1 (b ∧ jvLg s e i) (jz s 4) 0 := ⟨_, rfl⟩
  rw [← hwd] at h
  have hwi : ∀ i, w i = jaIf1 (b ∧ jvLg s e i) (jz s 4) 0 := fun i => by rw [hwd]
  have hw9 : ∀ i, w i ≤ 9 := fun i => by rw [hwi]; exact hwle i
  apply js_M_lays
  refine jaFor (C := fun i => ∀ S' u4 u5, (∀ q, q < i → S'.1 85 0 q = nI ((jvLa (jvCf s e) w i).1 q)) → jaFr [85] [] S S' → jc_M_lays_1 D kk (jaB b) (nI (jvLa (jvCf s e) w i).2) (nI i) u4 u5 (jaU σ 20 S')) (N := jz s 34) ?_ (fun i hi ih => ?_) S _ _ (fun q hq => absurd hq (by omega)) jaFr.rfl
  · intro S' u4 u5 a f
    apply jb_M_lays_1
    simp (disch := first | omega | decide) only [jaU_eq, jaU_U, nI_add, pk_mul, jaIx_nI, vp_inT, true_and, and_true, ↓jaO0, ↓jaO1, nI_z, nI_z2, nI_z3, nI_z4, nI_z5, nI_lt', nI_le', nI_eq', jaUI_at, jaPt_eq, jaPt_ne, jaUI_o, jaUI_2, jaUL_at, jaUL_o, jaUL_1, jaB_z, jaB_1, ↓jaB_01, Classical.not_not, and_self, true_or, or_true, nI_11, Nat.reduceEqDiff, Nat.reduceAdd, Nat.reduceMul, Nat.add_zero, Nat.zero_add, Nat.mul_zero, not_true_eq_false, not_false_eq_true, false_implies, true_implies, ((congrFun (f.s 72 (by decide) (by decide)) 0).trans hs)]
    rw [hO.1]
    simp (disch := first | omega | decide) only [jaU_eq, jaU_U, nI_add, pk_mul, jaIx_nI, vp_inT, true_and, and_true, ↓jaO0, ↓jaO1, nI_z, nI_z2, nI_z3, nI_z4, nI_z5, nI_lt', nI_le', nI_eq', jaUI_at, jaPt_eq, jaPt_ne, jaUI_o, jaUI_2, jaUL_at, jaUL_o, jaUL_1, jaB_z, jaB_1, ↓jaB_01, Classical.not_not, and_self, true_or, or_true, nI_11, Nat.reduceEqDiff, Nat.reduceAdd, Nat.reduceMul, Nat.add_zero, Nat.zero_add, Nat.mul_zero, not_true_eq_false, not_false_eq_true, false_implies, true_implies]
    refine ⟨fun _ => ?_, fun q => absurd (by omega) q⟩
    exact h S' f
  · intro S' u4 u5 a f
    have hle := jvLa_le (C := jvCf s e) hw9 i
    have hst : jvLa (jvCf s e) w (i + 1) = (fun q => if q = i then jvMx (jvCf s e) (jvLa (jvCf s e) w i).1 i i + 1 + w i else (jvLa (jvCf s e) w i).1 q, max (jvLa (jvCf s e) w i).2 (jvMx (jvCf s e) (jvLa (jvCf s e) w i).1 i i + 1 + w i)) := rfl
    rw [hst] at ih
    generalize jvLa (jvCf s e) w i = y at *
    obtain ⟨L, M⟩ := y
    simp only [] at a hle ih
    have step : ∀ v, v = jvMx (jvCf s e) L i i + 1 + w i → ∀ u4 u5, jc_M_lays_1 D kk (jaB b) (nI (max M v)) (nI (i + 1)) u4 u5 (jaU σ 20 (jaUI S' 85 0 i (nI v))) := by
      intro v hv u4 u5
      rw [← hv] at ih
      refine ih _ u4 u5 (fun q hq => ?_) ?_
      · simp (disch := first | omega | decide) only [jaU_eq, jaU_U, nI_add, pk_mul, jaIx_nI, vp_inT, true_and, and_true, ↓jaO0, ↓jaO1, nI_z, nI_z2, nI_z3, nI_z4, nI_z5, nI_lt', nI_le', nI_eq', jaUI_at, jaPt_eq, jaPt_ne, jaUI_o, jaUI_2, jaUL_at, jaUL_o, jaUL_1, jaB_z, jaB_1, ↓jaB_01, Classical.not_not, and_self, true_or, or_true, nI_11, Nat.reduceEqDiff, Nat.reduceAdd, Nat.reduceMul, Nat.add_zero, Nat.zero_add, Nat.mul_zero, not_true_eq_false, not_false_eq_true, false_implies, true_implies]
        by_cases e1 : q = i
        · rw [e1, jaPt_eq, if_pos rfl]
        · rw [jaPt_ne e1, if_neg e1]
          exact a q (by omega)
      · (repeat' first | assumption | exact jaFr.rfl | refine jaFr.ui ?_ (by decide) (by decide) | refine jaFr.uf ?_ (by decide) | exact jaFr.mono (by assumption) (by decide) (by decide))
    apply jb_M_lays_1
    simp (disch := first | omega | decide) only [jaU_eq, jaU_U, nI_add, pk_mul, jaIx_nI, vp_inT, true_and, and_true, ↓jaO0, ↓jaO1, nI_z, nI_z2, nI_z3, nI_z4, nI_z5, nI_lt', nI_le', nI_eq', jaUI_at, jaPt_eq, jaPt_ne, jaUI_o, jaUI_2, jaUL_at, jaUL_o, jaUL_1, jaB_z, jaB_1, ↓jaB_01, Classical.not_not, and_self, true_or, or_true, nI_11, Nat.reduceEqDiff, Nat.reduceAdd, Nat.reduceMul, Nat.add_zero, Nat.zero_add, Nat.mul_zero, not_true_eq_false, not_false_eq_true, false_implies, true_implies, ((congrFun (f.s 72 (by decide) (by decide)) 0).trans hs)]
    rw [hO.1]
    simp (disch := first | omega | decide) only [jaU_eq, jaU_U, nI_add, pk_mul, jaIx_nI, vp_inT, true_and, and_true, ↓jaO0, ↓jaO1, nI_z, nI_z2, nI_z3, nI_z4, nI_z5, nI_lt', nI_le', nI_eq', jaUI_at, jaPt_eq, jaPt_ne, jaUI_o, jaUI_2, jaUL_at, jaUL_o, jaUL_1, jaB_z, jaB_1, ↓jaB_01, Classical.not_not, and_self, true_or, or_true, nI_11, Nat.reduceEqDiff, Nat.reduceAdd, Nat.reduceMul, Nat.add_zero, Nat.zero_add, Nat.mul_zero, not_true_eq_false, not_false_eq_true, false_implies, true_implies]
    refine ⟨fun q => absurd q (by omega), fun _ => ?_⟩
    refine jaFor (C := fun j => jc_M_lays_2 D kk (jaB b) (nI M) (nI i) (nI (jvMx (jvCf s e) L i j)) (nI j) (jaU σ 20 S')) (N := i) ?_ (fun j hj ih2 => ?_)
    · have hm := jvMx_le (C := jvCf s e) (i := i) hle.1 i
      have hb1 := hw9 i
      generalize jvMx (jvCf s e) L i i = m at *
      apply jb_M_lays_2
      simp (disch := first | omega | decide) only [jaU_eq, jaU_U, nI_add, pk_mul, jaIx_nI, vp_inT, true_and, and_true, ↓jaO0, ↓jaO1, nI_z, nI_z2, nI_z3, nI_z4, nI_z5, nI_lt', nI_le', nI_eq', jaUI_at, jaPt_eq, jaPt_ne, jaUI_o, jaUI_2, jaUL_at, jaUL_o, jaUL_1, jaB_z, jaB_1, ↓jaB_01, Classical.not_not, and_self, true_or, or_true, nI_11, Nat.reduceEqDiff, Nat.reduceAdd, Nat.reduceMul, Nat.add_zero, Nat.zero_add, Nat.mul_zero, not_true_eq_false, not_false_eq_true, false_implies, true_implies]
      refine ⟨fun _ => ?_, fun q => absurd (by omega) q⟩
      refine ⟨fun q => ?_, fun q => ?_⟩
      · refine sp_M_greater (by omega) (by omega) (by omega) ?_
        exact step _ (by rw [hwi, jaIf1_f (fun x => q x.1)]) _ _
      · apply sp_M_isLong (by omega) ((congrFun (f.s 72 (by decide) (by decide)) 0).trans hs) ((congrFun (f.s 76 (by decide) (by decide)) 0).trans he) (by omega) (hids i hi).1 (hids i hi).2
        simp (disch := first | omega | decide) only [jaU_eq, jaU_U, nI_add, pk_mul, jaIx_nI, vp_inT, true_and, and_true, ↓jaO0, ↓jaO1, nI_z, nI_z2, nI_z3, nI_z4, nI_z5, nI_lt', nI_le', nI_eq', jaUI_at, jaPt_eq, jaPt_ne, jaUI_o, jaUI_2, jaUL_at, jaUL_o, jaUL_1, jaB_z, jaB_1, ↓jaB_01, Classical.not_not, and_self, true_or, or_true, nI_11, Nat.reduceEqDiff, Nat.reduceAdd, Nat.reduceMul, Nat.add_zero, Nat.zero_add, Nat.mul_zero, not_true_eq_false, not_false_eq_true, false_implies, true_implies, ((congrFun (f.s 72 (by decide) (by decide)) 0).trans hs)]
        refine ⟨fun q2 => ?_, fun q2 => ?_⟩
        · refine sp_M_greater (by omega) (by omega) (by omega) ?_
          exact step _ (by rw [hwi, jaIf1_f (fun x => q2 x.2)]) _ _
        · rw [h4]
          simp (disch := first | omega | decide) only [jaU_eq, jaU_U, nI_add, pk_mul, jaIx_nI, vp_inT, true_and, and_true, ↓jaO0, ↓jaO1, nI_z, nI_z2, nI_z3, nI_z4, nI_z5, nI_lt', nI_le', nI_eq', jaUI_at, jaPt_eq, jaPt_ne, jaUI_o, jaUI_2, jaUL_at, jaUL_o, jaUL_1, jaB_z, jaB_1, ↓jaB_01, Classical.not_not, and_self, true_or, or_true, nI_11, Nat.reduceEqDiff, Nat.reduceAdd, Nat.reduceMul, Nat.add_zero, Nat.zero_add, Nat.mul_zero, not_true_eq_false, not_false_eq_true, false_implies, true_implies]
          refine sp_M_greater (by omega) (by omega) (by omega) ?_
          exact step _ (by rw [hwi, jaIf1_t ⟨q, q2⟩]) _ _
    · have hm := jvMx_le (C := jvCf s e) (i := i) hle.1 j
      have hst2 : jvMx (jvCf s e) L i (j + 1) = jaIf1 (jvCf s e i j) (max (jvMx (jvCf s e) L i j) (L j)) (jvMx (jvCf s e) L i j) := rfl
      rw [hst2] at ih2
      generalize jvMx (jvCf s e) L i j = m at *
      have hLj := hle.1 j
      apply jb_M_lays_2
      simp (disch := first | omega | decide) only [jaU_eq, jaU_U, nI_add, pk_mul, jaIx_nI, vp_inT, true_and, and_true, ↓jaO0, ↓jaO1, nI_z, nI_z2, nI_z3, nI_z4, nI_z5, nI_lt', nI_le', nI_eq', jaUI_at, jaPt_eq, jaPt_ne, jaUI_o, jaUI_2, jaUL_at, jaUL_o, jaUL_1, jaB_z, jaB_1, ↓jaB_01, Classical.not_not, and_self, true_or, or_true, nI_11, Nat.reduceEqDiff, Nat.reduceAdd, Nat.reduceMul, Nat.add_zero, Nat.zero_add, Nat.mul_zero, not_true_eq_false, not_false_eq_true, false_implies, true_implies]
      refine ⟨fun q => absurd q (by omega), fun _ => ?_⟩
      apply sp_M_areConflict (by omega) ((congrFun (f.s 72 (by decide) (by decide)) 0).trans hs) ((congrFun (f.s 76 (by decide) (by decide)) 0).trans he) (by omega) (by omega) (hids i hi).1 (hids i hi).2 (hids j (by omega)).1 (hids j (by omega)).2
      simp (disch := first | omega | decide) only [jaU_eq, jaU_U, nI_add, pk_mul, jaIx_nI, vp_inT, true_and, and_true, ↓jaO0, ↓jaO1, nI_z, nI_z2, nI_z3, nI_z4, nI_z5, nI_lt', nI_le', nI_eq', jaUI_at, jaPt_eq, jaPt_ne, jaUI_o, jaUI_2, jaUL_at, jaUL_o, jaUL_1, jaB_z, jaB_1, ↓jaB_01, Classical.not_not, and_self, true_or, or_true, nI_11, Nat.reduceEqDiff, Nat.reduceAdd, Nat.reduceMul, Nat.add_zero, Nat.zero_add, Nat.mul_zero, not_true_eq_false, not_false_eq_true, false_implies, true_implies]
      refine ⟨fun q => ?_, fun q => ?_⟩
      · rw [jaIf1_f q] at ih2
        exact ih2
      · rw [jaIf1_t q] at ih2
        rw [a j hj]
        exact sp_M_greater (by omega) (by omega) (by omega) ih2
end
