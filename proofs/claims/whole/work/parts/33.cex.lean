section
/-! single writes, in pairs -/
theorem jR_upd {S S' : jaS} {s s' d e : jvA} (hR : jR S (s, d, e)) (hw : jWw s) (hs : ∀ j, j < 34 → s' j = s j) (hS : ∀ o, (30 ≤ o ∧ o < 35) ∨ o = 40 ∨ (54 ≤ o ∧ o < 60) ∨ (61 ≤ o ∧ o < 65) ∨ o = 67 → S'.1 o = S.1 o) (hRo : jRo S' s') (hRc : jRc S' s') (hRk : jRk S' s') (h66 : S'.1 66 = S.1 66) (h81 : ∀ j, (33 ≤ j ∧ j < 36) ∨ (81 ≤ j ∧ j < 145) → s' j = s j) (hC : jz s 35 ≤ 64) : jR S' (s', d, e) :=
  ⟨jRw_c (fun j hj => hs j (by omega)) hw (jRw_S (fun o h1 h2 => hS o (by omega)) hR.w), jRs_c (hs 32 (by omega)) (jRs_S (fun o h1 h2 => hS o (by omega)) hR.s), jRe_c (hs 33 (by omega)) (jRe_S (fun o h1 h2 => hS o (by omega)) hR.e), hRo, hRc, hRk, by show S'.1 40 0 5 = s' 31; rw [hS 40 (by omega), hs 31 (by omega)]; exact hR.t, jRp_c h81 hC (jRp_S h66 hR.p)⟩
theorem jR_val {S : jaS} {s d e : jvA} {c k : Nat} {x : Int32} (hR : jR S (s, d, e)) (hX : jX s d e) (hc : c < jz s 2) (hk : k < jz s 1) (hk40 : jz s 40 ≤ 40) (hk38 : jz s 38 ≤ 10) : jR (jaUI S 51 c k x) (jaPt s (145 + 10 * c + k) x, d, e) := by
  have h10 := hX.1.2.1.2
  have h3 := hX.1.2.2.1.2.2
  have hO := hX.2.2.2.ord.2
  refine jR_upd hR hX.1 (fun j hj => jaPt_ne (by omega)) (fun o ho => jaUI_o (by omega)) (jRo_c (fun j hj => jaPt_ne (by omega)) hX.2.2.2 (jRo_S (fun o ho => jaUI_o (by omega)) hR.o)) ?_ (jRk_c (fun j hj => jaPt_ne (by omega)) h10 hk38 hk40 (jRk_S (fun o h1 h2 => jaUI_o (by omega)) hR.k)) (jaUI_o (by decide)) (fun j hj => jaPt_ne (by omega)) hX.2.2.2.came.2
  intro c' hc'
  rw [jz_c (show jaPt s (145 + 10 * c + k) x 2 = s 2 from jaPt_ne (by omega))] at hc'
  obtain ⟨a, b⟩ := hR.c c' hc'
  unfold jRc1
  rw [jz_c (show jaPt s (145 + 10 * c + k) x 1 = s 1 from jaPt_ne (by omega)), jz_c (show jaPt s (145 + 10 * c + k) x 34 = s 34 from jaPt_ne (by omega)), jaUI_o (show 52 ≠ 51 by decide), jaUI_o (show 53 ≠ 51 by decide)]
  refine ⟨fun k' hk' => ?_, fun i hi => ?_⟩
  · by_cases q : c' = c
    · subst q
      rw [jaUI_at]
      by_cases q2 : k' = k
      · rw [q2, jaPt_eq, jaPt_eq]
      · rw [jaPt_ne q2, jaPt_ne (by omega)]
        exact a k' hk'
    · rw [jaUI_c q, jaPt_ne (by omega)]
      exact a k' hk'
  · have hi : i < jz s 34 := hi
    rw [jaPt_ne (by omega), jaPt_ne (by omega)]
    exact b i hi
theorem jR_tw {S : jaS} {s d e : jvA} {k : Nat} {x : Int32} (hR : jR S (s, d, e)) (hX : jX s d e) (hk : k < jz s 1) (hk40 : jz s 40 ≤ 40) (hk38 : jz s 38 ≤ 10) (h36 : s 36 = nI 1) : jR (jaUI (jaUI S 44 0 3 (S.1 44 0 3 ||| jaMk (nI k))) 45 0 k x) (jaPt (jaPt s 39 (s 39 ||| jaMk (nI k))) (455 + k) x, d, e) := by
  have h10 := hX.1.2.1.2
  have h3 := hX.1.2.2.1.2.2
  have hO := hX.2.2.2.ord.2
  have ne : ∀ j, j ≠ 39 → j ≠ 455 + k → jaPt (jaPt s 39 (s 39 ||| jaMk (nI k))) (455 + k) x j = s j := fun j a b => by rw [jaPt_ne b, jaPt_ne a]
  have so : ∀ o, o ≠ 44 → o ≠ 45 → (jaUI (jaUI S 44 0 3 (S.1 44 0 3 ||| jaMk (nI k))) 45 0 k x).1 o = S.1 o := fun o a b => by rw [jaUI_o b, jaUI_o a]
  refine jR_upd hR hX.1 (fun j hj => ne j (by omega) (by omega)) (fun o ho => so o (by omega) (by omega)) (jRo_c (fun j hj => ne j (by omega) (by omega)) hX.2.2.2 (jRo_S (fun o ho => so o (by omega) (by omega)) hR.o)) (jRc_c (fun j hj => ne j (by omega) (by omega)) h3 h10 hO (jRc_S (fun o h1 h2 => so o (by omega) (by omega)) hR.c)) ?_ (so 66 (by decide) (by decide)) (fun j hj => ne j (by omega) (by omega)) hX.2.2.2.came.2
  obtain ⟨a, b, c, f, g⟩ := hR.k
  obtain ⟨⟨b1, b2, b3⟩, b4, b5⟩ := b h36
  have e39 : jaPt (jaPt s 39 (s 39 ||| jaMk (nI k))) (455 + k) x 39 = s 39 ||| jaMk (nI k) := by rw [jaPt_ne (by omega), jaPt_eq]
  unfold jRk
  rw [ne 36 (by omega) (by omega), ne 37 (by omega) (by omega), ne 38 (by omega) (by omega), ne 40 (by omega) (by omega), jz_c (ne 1 (by omega) (by omega)), jz_c (ne 38 (by omega) (by omega)), jz_c (ne 40 (by omega) (by omega)), e39,
    so 46 (by decide) (by decide), so 47 (by decide) (by decide), so 48 (by decide) (by decide), jaUI_o (show 44 ≠ 45 by decide), jaUI_at, jaUI_at, jaUI_o (show 45 ≠ 44 by decide)]
  rw [jaPt_ne (show 0 ≠ 3 by decide), jaPt_ne (show 1 ≠ 3 by decide), jaPt_ne (show 2 ≠ 3 by decide), jaPt_ne (show 6 ≠ 3 by decide), jaPt_eq]
  refine ⟨a, fun _ => ⟨⟨b1, b2, by rw [b3]⟩, fun k' hk' hb => ?_, fun k' hk' => ?_⟩, c, fun k' hk' => ?_, fun i hi => ?_⟩
  · have hk' : k' < jz s 1 := hk'
    by_cases q : k' = k
    · rw [q, jaPt_eq, jaPt_eq]
    · rw [jaPt_ne q, ne _ (by omega) (by omega)]
      rw [jaBt_orm (by omega) (by omega)] at hb
      exact b4 k' hk' (hb.elim id (fun z => absurd z q))
  · have hk' : k' < jz s 38 := hk'
    rw [ne _ (by omega) (by omega)]
    exact b5 k' hk'
  · have hk' : k' < jz s 1 := hk'
    rw [ne _ (by omega) (by omega)]
    exact f k' hk'
  · have hi : i < jz s 40 := hi
    rw [ne _ (by omega) (by omega)]
    exact g i hi
theorem jR_cp {S S' : jaS} {s s' d e : jvA} {c i : Nat} (hR : jR S (s, d, e)) (hX : jX s d e) (hc : c < jz s 2) (hi : i < jz s 34) (hk40 : jz s 40 ≤ 40) (hk38 : jz s 38 ≤ 10) (ne : ∀ j, j ≠ 175 + 40 * c + i → j ≠ 295 + 40 * c + i → s' j = s j) (so : ∀ o, o ≠ 52 → o ≠ 53 → S'.1 o = S.1 o) (sc : ∀ c' i', ¬ (c' = c ∧ i' = i) → S'.1 52 c' i' = S.1 52 c' i' ∧ S'.1 53 c' i' = S.1 53 c' i')
    (h1 : S'.1 52 c i = s' (175 + 40 * c + i)) (h2 : s' (175 + 40 * c + i) = nI 1 → S'.1 53 c i = s' (295 + 40 * c + i)) : jR S' (s', d, e) := by
  have h10 := hX.1.2.1.2
  have h3 := hX.1.2.2.1.2.2
  have hO := hX.2.2.2.ord.2
  refine jR_upd hR hX.1 (fun j hj => ne j (by omega) (by omega)) (fun o ho => so o (by omega) (by omega)) (jRo_c (fun j hj => ne j (by omega) (by omega)) hX.2.2.2 (jRo_S (fun o ho => so o (by omega) (by omega)) hR.o)) ?_ (jRk_c (fun j hj => ne j (by omega) (by omega)) h10 hk38 hk40 (jRk_S (fun o h1 h2 => so o (by omega) (by omega)) hR.k)) (so 66 (by decide) (by decide)) (fun j hj => ne j (by omega) (by omega)) hX.2.2.2.came.2
  intro c' hc'
  rw [jz_c (ne 2 (by omega) (by omega))] at hc'
  obtain ⟨a, b⟩ := hR.c c' hc'
  unfold jRc1
  rw [jz_c (ne 1 (by omega) (by omega)), jz_c (ne 34 (by omega) (by omega)), so 51 (by decide) (by decide)]
  refine ⟨fun k' hk' => ?_, fun i' hi' => ?_⟩
  · have hk' : k' < jz s 1 := hk'
    have hc' : c' < jz s 2 := hc'
    rw [ne _ (by omega) (by omega)]
    exact a k' hk'
  · have hi' : i' < jz s 34 := hi'
    have hc' : c' < jz s 2 := hc'
    by_cases q : c' = c ∧ i' = i
    · rw [q.1, q.2]
      exact ⟨h1, h2⟩
    · rw [(sc c' i' q).1, (sc c' i' q).2, ne _ (by omega) (by omega), ne _ (by omega) (by omega)]
      exact b i' hi'
theorem jR_how {S : jaS} {s d e : jvA} {c i : Nat} {v : Int32} (hR : jR S (s, d, e)) (hX : jX s d e) (hc : c < jz s 2) (hi : i < jz s 34) (hk40 : jz s 40 ≤ 40) (hk38 : jz s 38 ≤ 10) (hv : ¬ v = nI 1) : jR (jaUI S 52 c i v) (jvE1 s c i v, d, e) := by
  have h3 := hX.1.2.2.1.2.2
  have hO := hX.2.2.2.ord.2
  have e1 : jvE1 s c i v (175 + 40 * c + i) = v := by rw [jvE1, jaPt_ne (by omega), jaPt_eq]
  refine jR_cp hR hX hc hi hk40 hk38 (fun j a b => jvE1_ne a b) (fun o a b => jaUI_o a) (fun c' i' q => ⟨?_, by rw [jaUI_o (by decide)]⟩) ?_ (fun q => absurd (e1.symm.trans q) hv)
  · by_cases q1 : c' = c
    · subst q1
      rw [jaUI_at, jaPt_ne (fun z => q ⟨rfl, z⟩)]
    · rw [jaUI_c q1]
  · rw [e1, jaUI_at, jaPt_eq]
theorem jR_go {S : jaS} {s d e : jvA} {c i : Nat} {v : Int32} (hR : jR S (s, d, e)) (hX : jX s d e) (hc : c < jz s 2) (hi : i < jz s 34) (hk40 : jz s 40 ≤ 40) (hk38 : jz s 38 ≤ 10) : jR (jaUI (jaUI S 52 c i (nI 1)) 53 c i v) (jaPt (jaPt s (175 + 40 * c + i) (nI 1)) (295 + 40 * c + i) v, d, e) := by
  have h3 := hX.1.2.2.1.2.2
  have hO := hX.2.2.2.ord.2
  refine jR_cp hR hX hc hi hk40 hk38 (fun j a b => by rw [jaPt_ne b, jaPt_ne a]) (fun o a b => by rw [jaUI_o b, jaUI_o a]) (fun c' i' q => ⟨?_, ?_⟩) ?_ (fun q => ?_)
  · rw [jaUI_o (by decide)]
    by_cases q1 : c' = c
    · subst q1
      rw [jaUI_at, jaPt_ne (fun z => q ⟨rfl, z⟩)]
    · rw [jaUI_c q1]
  · by_cases q1 : c' = c
    · subst q1
      rw [jaUI_at, jaPt_ne (fun z => q ⟨rfl, z⟩), jaUI_o (by decide)]
    · rw [jaUI_c q1, jaUI_o (by decide)]
  · rw [jaUI_o (by decide), jaUI_at, jaPt_eq, jaPt_ne (by omega), jaPt_eq]
  · rw [jaUI_at, jaPt_eq, jaPt_eq]
theorem jR_left {S : jaS} {s d e : jvA} {c i : Nat} {v : Int32} (hR : jR S (s, d, e)) (hX : jX s d e) (hc : c < jz s 2) (hi : i < jz s 34) (hk40 : jz s 40 ≤ 40) (hk38 : jz s 38 ≤ 10) : jR (jaUI S 53 c i v) (jaPt s (295 + 40 * c + i) v, d, e) := by
  have h3 := hX.1.2.2.1.2.2
  have hO := hX.2.2.2.ord.2
  refine jR_cp hR hX hc hi hk40 hk38 (fun j a b => jaPt_ne b) (fun o a b => jaUI_o b) (fun c' i' q => ⟨by rw [jaUI_o (by decide)], ?_⟩) ?_ (fun q => ?_)
  · by_cases q1 : c' = c
    · subst q1
      rw [jaUI_at, jaPt_ne (fun z => q ⟨rfl, z⟩)]
    · rw [jaUI_c q1]
  · rw [jaUI_o (by decide), jaPt_ne (by omega)]
    exact ((hR.c c hc).2 i hi).1
  · rw [jaUI_at, jaPt_eq, jaPt_eq]
theorem jR_again {S : jaS} {s d e : jvA} {i : Nat} (hR : jR S (s, d, e)) (hX : jX s d e) (hi : i < jz s 34) (hk40 : jz s 40 ≤ 40) (hk38 : jz s 38 ≤ 10) : jR (jaUI S 65 0 (jz s (41 + i)) (nI 1)) (jaPt s (415 + i) (nI 1), d, e) := by
  have h10 := hX.1.2.1.2
  have h3 := hX.1.2.2.1.2.2
  have hO := hX.2.2.2.ord.2
  have hC := hX.2.2.2.came.2
  have ne : ∀ j, j ≠ 415 + i → jaPt s (415 + i) (nI 1) j = s j := fun j a => jaPt_ne a
  refine jR_upd hR hX.1 (fun j hj => ne j (by omega)) (fun o ho => jaUI_o (by omega)) ?_ (jRc_c (fun j hj => ne j (by omega)) h3 h10 hO (jRc_S (fun o h1 h2 => jaUI_o (by omega)) hR.c)) (jRk_c (fun j hj => ne j (by omega)) h10 hk38 hk40 (jRk_S (fun o h1 h2 => jaUI_o (by omega)) hR.k)) (jaUI_o (by decide)) (fun j hj => ne j (by omega)) hC
  obtain ⟨a, b, c, f⟩ := hR.o
  obtain ⟨-, -, -, -, -, -, -, -, -, hinj, hdis, -⟩ := hX.2.2.2
  unfold jRo
  rw [ne 33 (by omega), ne 34 (by omega), jz_c (ne 34 (by omega)), jz_c (ne 35 (by omega)), jaUI_o (show 60 ≠ 65 by decide), jaUI_o (show 66 ≠ 65 by decide), jaUI_o (show 68 ≠ 65 by decide), jaUI_at]
  refine ⟨a, b, fun j hj => ?_, fun j hj => ?_⟩
  · have hj : j < jz s 34 := hj
    rw [ne (41 + j) (by omega), jz_c (ne (41 + j) (by omega))]
    by_cases q : j = i
    · rw [q, jaPt_eq, jaPt_eq]
      exact ⟨(c i hi).1, rfl, (c i hi).2.2⟩
    · have hne : jz s (41 + j) ≠ jz s (41 + i) := by
        rcases Nat.lt_or_ge j i with z | z
        · exact hinj j i z hi
        · exact (hinj i j (by omega) hj).symm
      rw [jaPt_ne hne, ne (415 + j) (by omega)]
      exact c j hj
  · have hj : j < jz s 35 := hj
    rw [jz_c (ne (81 + j) (by omega)), jaPt_ne (Ne.symm (hdis i j hi hj))]
    exact f j hj
/-! what is written -/
theorem jvSts_w {d e : jvA} {id b : Nat} : ∀ (m k : Nat) (v v' : jvA) (w' : Int32), (∀ i, i < k + m → d (b + 7 + 21 * i) = nI 0 ∨ d (b + 7 + 21 * i) = nI 1) → jvSts d e id b m k v (jvWs d e id b k) = some (v', w') → w' = jvWs d e id b (k + m)
  | 0, k, v, v', w', _, h => by
    have h : some (v, jvWs d e id b k) = some (v', w') := h
    cases h
    rfl
  | m + 1, k, v, v', w', hd, h => by
    rw [jvSts_s] at h
    have hst : jvWs d e id b (k + 1) = jaIf1 (d (b + 7 + 21 * k) = 0) (jvWs d e id b k ||| jaMk (jvKey d e id (b + 7 + 21 * k + 1))) (jvWs d e id b k) := rfl
    rcases hd k (by omega) with q | q
    · rw [jaIf1_f (by rw [q]; decide)] at h
      rw [jaIf1_t (by rw [q]; decide)] at hst
      rw [← hst] at h
      rw [show k + (m + 1) = k + 1 + m by omega]
      exact jvSts_w m (k + 1) _ _ _ (fun i hi => hd i (by omega)) h
    · rw [jaIf1_t q] at h
      rw [jaIf1_f (by rw [q]; decide)] at hst
      rw [← hst] at h
      rw [show k + (m + 1) = k + 1 + m by omega]
      by_cases q2 : jvOk (d (b + 7 + 21 * k + 3)) (v (jaIx (jvKey d e id (b + 7 + 21 * k + 1)))) (jvSum d e id v (b + 7 + 21 * k) (jz d (b + 7 + 21 * k + 4)))
      · rw [jaIf1_t q2] at h
        exact jvSts_w m (k + 1) _ _ _ (fun i hi => hd i (by omega)) h
      · rw [jaIf1_f q2] at h
        cases h
theorem jvGo_w {K m : Nat} {row d e : jvA} {k : Int32} {id : Nat} {v : jvA} {w : Int32} (hi : jWi K m d e id) (hn : jWn K d (jz e (9 * id))) (hg : jvGo row d e k id = (nI 2, v, w)) : w = e (9 * id + 3) := by
  obtain ⟨hk1, hd0, hd1, hd2, hda, hds⟩ := hn
  simp only [jvGo] at hg
  by_cases q : jvAg row d e k id (133 * jz e (9 * id)) (jz d (133 * jz e (9 * id) + 2))
  · rw [jaIf1_t q] at hg
    exact absurd (congrArg Prod.fst hg) (by show ¬ nI 3 = nI 2; decide)
  · rw [jaIf1_f q] at hg
    generalize hs : jvSts d e id (133 * jz e (9 * id)) (jz d (133 * jz e (9 * id) + 1)) 0 row (nI 0) = z at hg
    match z, hs, hg with
    | none, _, hg => exact absurd (congrArg Prod.fst hg) (by show ¬ nI 4 = nI 2; decide)
    | some (v1, w1), hs, hg =>
      cases hg
      have := jvSts_w (jz d (133 * jz e (9 * id) + 1)) 0 row v w (fun i hi => (hds i (by omega)).1) hs
      rw [Nat.zero_add] at this
      rw [this]
      exact hi.2.2.2.1.symm
end
