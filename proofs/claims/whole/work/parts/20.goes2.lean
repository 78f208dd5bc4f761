section
/-! what a copy's tick keeps -/
def jKp (j : Nat) : Prop := j < 33 ∨ j = 34 ∨ (36 ≤ j ∧ j ≤ 38) ∨ (40 ≤ j ∧ j < 81) ∨ 465 ≤ j
def jKeep (s e s' e' : jvA) : Prop := (∀ j, jKp j → s' j = s j) ∧ (∀ j, j < 9 * jz s 33 → e' j = e j) ∧ jz s 33 ≤ jz s' 33
theorem jKeep.rfl {s e : jvA} : jKeep s e s e := ⟨fun _ _ => Eq.refl _, fun _ _ => Eq.refl _, Nat.le_refl _⟩
theorem jKeep.trans {s e s' e' s'' e'' : jvA} (h : jKeep s e s' e') (h' : jKeep s' e' s'' e'') : jKeep s e s'' e'' :=
  ⟨fun j hj => (h'.1 j hj).trans (h.1 j hj), fun j hj => (h'.2.1 j (by have := h.2.2; omega)).trans (h.2.1 j hj), Nat.le_trans h.2.2 h'.2.2⟩
theorem jKeep.at {s e s' e' : jvA} (h : jKeep s e s' e') (j : Nat) (hj : jKp j) : s' j = s j := h.1 j hj
theorem jW.X {s d e : jvA} (h : jW s d e) : jX s d e := ⟨h.w, h.d, h.e, h.o⟩
theorem jW.O {s d e : jvA} (h : jW s d e) : jz s 34 ≤ 40 := h.o.ord.2
theorem jvEx_kp {s d e : jvA} {c i : Nat} (hX : jX s d e) (hc : c < 3) (hi : i < jz s 34) : jKeep s e (jvEx s d e c i).1 (jvEx s d e c i).2 := by
  have hO := hX.2.2.2.ord.2
  have h10 := hX.1.2.1.2
  refine ⟨fun j hj => jvEx_keep hX hc (by omega) hj, fun j hj => jvEx_e hj hc (by omega), ?_⟩
  refine jvEx_cases (P := fun x => jz s 33 ≤ jz x.1 33) (fun v w hg => ?_) (fun how v w hg h1 h2 => ?_) (fun v w hg h1 h2 => ?_)
  · exact Nat.le_of_eq (jz_c (by show jvPut c i v w (jvE1 s c i (nI 2)) (jz s 1) 33 = s 33; rw [jvPut_ne (by omega) _ (by omega) (by omega), jvE1_ne (by omega) (by omega)])).symm
  · exact Nat.le_of_eq (jz_c (by show jvE1 s c i how 33 = s 33; rw [jvE1_ne (by omega) (by omega)])).symm
  · subst h1
    have h64 := (jvEx_again hX hi h2 (nI 3)).2
    show jz s 33 ≤ jaIx (jvComeS (jaPt (jvE1 s 0 i (nI 3)) (415 + i) (nI 1)) 33)
    rw [jvComeS_33, jaPt_ne (by omega), jvE1_ne (by omega) (by omega), hX.2.2.2.pool.1, nI_add, jaIx_nI (by omega)]
    omega
theorem jW.keep {s d e s' e' : jvA} (h : jW s d e) (hk : jKeep s e s' e') {j : Nat} (hj : jKp j) : jz s' j = jz s j := jz_c (hk.1 j hj)
/-! one that goes -/
def jvDn (s : jvA) (c i : Nat) : jvA := jaPt s (295 + 40 * c + i) (s (295 + 40 * c + i) - nI 1)
theorem jvPs1_eq {d : jvA} {c i : Nat} {x : jvA × jvA} : jvPs1 d c i x = jaIf1 (x.1 (175 + 40 * c + i) = nI 1) (jaIf1 (jvDn x.1 c i (295 + 40 * c + i) = 0) (jvEx (jvDn x.1 c i) d x.2 c i) (jvDn x.1 c i, x.2)) x := rfl
theorem jX_295 {s d e : jvA} {c i : Nat} {v : Int32} (hX : jX s d e) (hc : c < 3) (hi : i < 40) : jX (jaPt s (295 + 40 * c + i) v) d e := jX_c (fun j hj => by rw [jaPt_ne (by omega)]) hX
theorem jvPs1_W {s d e : jvA} {c i : Nat} (h : jW s d e) (hc : c < 3) (hi : i < jz s 34) : jW (jvPs1 d c i (s, e)).1 d (jvPs1 d c i (s, e)).2 ∧ jKeep s e (jvPs1 d c i (s, e)).1 (jvPs1 d c i (s, e)).2 := by
  have hO := h.O
  rw [jvPs1_eq]
  by_cases q : s (175 + 40 * c + i) = nI 1
  · rw [jaIf1_t q]
    obtain ⟨l1, l2, l3⟩ := (h.c c i hc (by omega)).2.2 q
    have hd : jvDn s c i (295 + 40 * c + i) = nI (jz s (295 + 40 * c + i) - 1) := by
      unfold jvDn
      rw [jaPt_eq, l1, nI_sub l2]
    have ne : ∀ j, j ≠ 295 + 40 * c + i → jvDn s c i j = s j := fun j hj => jaPt_ne hj
    have hX : jX (jvDn s c i) d e := jX_295 h.X hc (by omega)
    have kp : jKeep s e (jvDn s c i) e := ⟨fun j hj => ne j (by unfold jKp at hj; omega), fun _ _ => rfl, Nat.le_of_eq (jz_c (ne 33 (by omega))).symm⟩
    have hcs : ∀ c' i', c' < 3 → i' < 40 → ¬ (c' = c ∧ i' = i) → jWc1 (jvDn s c i) c' i' := fun c' i' hc' hi' hne => jWc1_c (ne _ (by omega)) (ne _ (by omega)) (ne _ (by omega)) (h.c c' i' hc' hi')
    have hk : jWk (jvDn s c i) := jWk_c (fun j hj => ne j (by omega)) (fun _ => ne _ (by omega)) hO h.k
    have ht : jvDn s c i 31 = nI (jz (jvDn s c i) 31) := by
      rw [jz_c (ne 31 (by omega)), ne 31 (by omega)]
      exact h.t
    show jW (jaIf1 (jvDn s c i (295 + 40 * c + i) = 0) (jvEx (jvDn s c i) d e c i) (jvDn s c i, e)).1 d (jaIf1 (jvDn s c i (295 + 40 * c + i) = 0) (jvEx (jvDn s c i) d e c i) (jvDn s c i, e)).2 ∧ jKeep s e (jaIf1 (jvDn s c i (295 + 40 * c + i) = 0) (jvEx (jvDn s c i) d e c i) (jvDn s c i, e)).1 (jaIf1 (jvDn s c i (295 + 40 * c + i) = 0) (jvEx (jvDn s c i) d e c i) (jvDn s c i, e)).2
    by_cases q2 : jvDn s c i (295 + 40 * c + i) = 0
    · rw [jaIf1_t q2]
      have hi' : i < jz (jvDn s c i) 34 := by rw [jz_c (ne 34 (by omega))]; exact hi
      exact ⟨jvEx_W hX hc hi' hcs hk ht, kp.trans (jvEx_kp hX hc hi')⟩
    · rw [jaIf1_f q2]
      refine ⟨⟨hX.1, hX.2.1, hX.2.2.1, hX.2.2.2, fun c' i' hc' hi' => ?_, hk, ht⟩, kp⟩
      by_cases q3 : c' = c ∧ i' = i
      · rw [q3.1, q3.2]
        have hb := h.c c i hc (by omega)
        have e1 := ne (175 + 40 * c + i) (by omega)
        have e34 := ne 34 (by omega)
        show jWc1 (jvDn s c i) c i
        unfold jWc1
        rw [e1, jz_c e1, jz_c e34, show jz (jvDn s c i) (295 + 40 * c + i) = jz s (295 + 40 * c + i) - 1 from (congrArg jaIx hd).trans (jaIx_nI (by omega))]
        refine ⟨hb.1, hb.2.1, fun _ => ⟨hd, ?_, by omega⟩⟩
        rw [hd, nI_z (by omega)] at q2
        omega
      · exact hcs c' i' hc' hi' q3
  · rw [jaIf1_f q]
    exact ⟨h, jKeep.rfl⟩
theorem jvPs_W {s d e : jvA} {c : Nat} (h : jW s d e) (hc : c < 3) : ∀ n, n ≤ jz s 34 → jW (jvPs d c (s, e) n).1 d (jvPs d c (s, e) n).2 ∧ jKeep s e (jvPs d c (s, e) n).1 (jvPs d c (s, e) n).2
  | 0, _ => ⟨h, jKeep.rfl⟩
  | n + 1, hn => by
    obtain ⟨a, b⟩ := jvPs_W h hc n (by omega)
    have e34 : jz (jvPs d c (s, e) n).1 34 = jz s 34 := jz_c (b.1 34 (Or.inr (Or.inl rfl)))
    obtain ⟨a2, b2⟩ := jvPs1_W a hc (i := n) (by omega)
    exact ⟨a2, b.trans b2⟩
/-! those that are taken -/
theorem jvPk_mem {p : Nat → Prop} {f : Nat → Nat} {x : Nat} : ∀ (m i q : Nat), x ∈ jvPk p f m i q → ∃ k, i ≤ k ∧ k < i + m ∧ x = f k
  | 0, i, q, h => by simp [jvPk] at h
  | m + 1, i, q, h => by
    rw [jvPk] at h
    by_cases e : q = 0 ∨ ¬ p (f i)
    · rw [jaIf1_t e] at h
      obtain ⟨k, h1, h2, h3⟩ := jvPk_mem m (i + 1) q h
      exact ⟨k, by omega, by omega, h3⟩
    · rw [jaIf1_f e] at h
      rcases List.mem_cons.mp h with h | h
      · exact ⟨i, by omega, by omega, h⟩
      · obtain ⟨k, h1, h2, h3⟩ := jvPk_mem m (i + 1) (q - 1) h
        exact ⟨k, by omega, by omega, h3⟩
theorem jvAt_lt {s : jvA} {c k : Nat} (h : k < jz s 34) : jvAt s c k < jz s 34 := by
  unfold jvAt jaIf1
  split <;> omega
theorem jvPks_lt {s e : jvA} {c x : Nat} (h : x ∈ jvPks s e c) : x < jz s 34 := by
  obtain ⟨k, h1, h2, h3⟩ := jvPk_mem _ _ _ h
  rw [h3]
  exact jvAt_lt (by omega)
theorem jvTk1_W {s d e : jvA} {c i : Nat} (h : jW s d e) (hc : c < 3) (hi : i < jz s 34) : jW (jvTk1 d c i (s, e)).1 d (jvTk1 d c i (s, e)).2 ∧ jKeep s e (jvTk1 d c i (s, e)).1 (jvTk1 d c i (s, e)).2 := by
  have hO := h.O
  unfold jvTk1
  by_cases q : jvLg s e i
  · rw [jaIf1_t q]
    have ne : ∀ j, j ≠ 175 + 40 * c + i → j ≠ 295 + 40 * c + i → jaPt (jaPt s (175 + 40 * c + i) (nI 1)) (295 + 40 * c + i) (s 4) j = s j := fun j h1 h2 => by rw [jaPt_ne h2, jaPt_ne h1]
    refine ⟨⟨?_, ?_, ?_, ?_, fun c' i' hc' hi' => ?_, jWk_c (fun j hj => ne j (by omega) (by omega)) (fun _ => ne _ (by omega) (by omega)) hO h.k, ?_⟩, fun j hj => ne j (by unfold jKp at hj; omega) (by unfold jKp at hj; omega), fun _ _ => rfl, Nat.le_of_eq (jz_c (ne 33 (by omega) (by omega))).symm⟩
    · exact jWw_c (fun j hj => ne j (by omega) (by omega)) h.w
    · exact jWd_c (ne 1 (by omega) (by omega)) (ne 32 (by omega) (by omega)) h.d
    · exact jWe_c (ne 1 (by omega) (by omega)) (ne 32 (by omega) (by omega)) (ne 33 (by omega) (by omega)) h.e
    · exact jWo_c (fun j hj => ne j (by omega) (by omega)) h.o
    · have e34 := ne 34 (by omega) (by omega)
      by_cases q3 : c' = c ∧ i' = i
      · rw [q3.1, q3.2]
        show jWc1 (jaPt (jaPt s (175 + 40 * c + i) (nI 1)) (295 + 40 * c + i) (s 4)) c i
        have e1 : jaPt (jaPt s (175 + 40 * c + i) (nI 1)) (295 + 40 * c + i) (s 4) (175 + 40 * c + i) = nI 1 := by rw [jaPt_ne (by omega), jaPt_eq]
        have e2 : jaPt (jaPt s (175 + 40 * c + i) (nI 1)) (295 + 40 * c + i) (s 4) (295 + 40 * c + i) = s 4 := jaPt_eq
        obtain ⟨h4, h4'⟩ := h.w.2.2.2.2.1
        have h4n := q.2
        have e34 : jaPt (jaPt s (175 + 40 * c + i) (nI 1)) (295 + 40 * c + i) (s 4) 34 = s 34 := e34
        generalize jaPt (jaPt s (175 + 40 * c + i) (nI 1)) (295 + 40 * c + i) (s 4) = X at *
        have z1 : jz X (175 + 40 * c + i) = 1 := (congrArg jaIx e1).trans (jaIx_nI (by decide))
        have z2 : jz X (295 + 40 * c + i) = jz s 4 := congrArg jaIx e2
        have h4n : ¬ s 4 ≤ 0 := h4n
        rw [h4, nI_z4 (by omega)] at h4n
        unfold jWc1
        rw [jz_c e34, z1, z2, e1, e2]
        exact ⟨⟨rfl, by decide⟩, fun x => absurd hi (by omega), fun _ => ⟨h4, by omega, h4'⟩⟩
      · exact jWc1_c (ne _ (by omega) (by omega)) (ne _ (by omega) (by omega)) e34 (h.c c' i' hc' hi')
    · show jaPt (jaPt s (175 + 40 * c + i) (nI 1)) (295 + 40 * c + i) (s 4) 31 = nI (jz (jaPt (jaPt s (175 + 40 * c + i) (nI 1)) (295 + 40 * c + i) (s 4)) 31)
      rw [jz_c (ne 31 (by omega) (by omega)), ne 31 (by omega) (by omega)]
      exact h.t
  · rw [jaIf1_f q]
    exact ⟨jvEx_W h.X hc hi (fun c' i' hc' hi' _ => h.c c' i' hc' hi') h.k h.t, jvEx_kp h.X hc hi⟩
theorem jvTk_W {d : jvA} {c : Nat} (hc : c < 3) : ∀ (l : List Nat) (s e : jvA), jW s d e → (∀ i, i ∈ l → i < jz s 34) → jW (jvTk d c l (s, e)).1 d (jvTk d c l (s, e)).2 ∧ jKeep s e (jvTk d c l (s, e)).1 (jvTk d c l (s, e)).2
  | [], s, e, h, _ => ⟨h, jKeep.rfl⟩
  | i :: l, s, e, h, hl => by
    obtain ⟨a, b⟩ := jvTk1_W h hc (hl i List.mem_cons_self)
    have e34 : jz (jvTk1 d c i (s, e)).1 34 = jz s 34 := jz_c (b.1 34 (Or.inr (Or.inl rfl)))
    obtain ⟨a2, b2⟩ := jvTk_W hc l _ _ a (fun x hx => by rw [e34]; exact hl x (List.mem_cons_of_mem _ hx))
    exact ⟨a2, b.trans b2⟩
theorem jvCg_W {s d e : jvA} {c : Nat} (h : jW s d e) (hc : c < 3) : jW (jvCg d c (s, e)).1 d (jvCg d c (s, e)).2 ∧ jKeep s e (jvCg d c (s, e)).1 (jvCg d c (s, e)).2 := by
  obtain ⟨a, b⟩ := jvPs_W h hc _ (Nat.le_refl _)
  obtain ⟨a2, b2⟩ := jvTk_W hc _ _ _ a (fun x hx => jvPks_lt hx)
  exact ⟨a2, b.trans b2⟩
theorem jvCgs_W {s d e : jvA} (h : jW s d e) : ∀ n, n ≤ 3 → jW (jvCgs d (s, e) n).1 d (jvCgs d (s, e) n).2 ∧ jKeep s e (jvCgs d (s, e) n).1 (jvCgs d (s, e) n).2
  | 0, _ => ⟨h, jKeep.rfl⟩
  | n + 1, hn => by
    obtain ⟨a, b⟩ := jvCgs_W h n (by omega)
    obtain ⟨a2, b2⟩ := jvCg_W a (show n < 3 by omega)
    exact ⟨a2, b.trans b2⟩
/-! the reference: a copy's tick -/
set_option maxHeartbeats 4000000 in
theorem sp_M_copyGoes {D : Nat} (hD : 6 ≤ D) {kk : jaT → Prop} {σ : jaT} {S : jaS} {s d e : jvA} (hs : S.1 72 0 = s) (hd : S.1 75 0 = d) (he : S.1 76 0 = e) {c : Nat} (hc : c < jz s 2) (hW : jW s d e)
    (h : ∀ S', S'.1 72 0 = (jvCg d c (s, e)).1 → S'.1 76 0 = (jvCg d c (s, e)).2 → jaFr [72, 76, 80, 82] [29] S S' → kk (jaU σ 20 S')) : jaDe D jy_M_copyGoes [jaMo, .inl (nI c)] (jaU σ 20 S) (jaKv kk) := by
  obtain ⟨D, rfl, hD⟩ := jaSuc hD
  have hc3 : c < 3 := by have := hW.w.2.2.1.2.2; omega
  have hO := hW.O
  -- those taken
  have L11 : ∀ (R : List Nat) (k m : Nat) (s1 e1 : jvA) (S' : jaS) (u : Option jaV), S'.1 72 0 = s1 → S'.1 76 0 = e1 → jaFr [72, 76, 80, 82] [29] S S' → jW s1 d e1 → m = k + R.length → m ≤ 4 → (∀ q, q < R.length → S'.1 82 0 (k + q) = nI (R.getD q 0)) → (∀ i, i ∈ R → i < jz s1 34) →
      (∀ S', S'.1 72 0 = (jvTk d c R (s1, e1)).1 → S'.1 76 0 = (jvTk d c R (s1, e1)).2 → jaFr [72, 76, 80, 82] [29] S S' → kk (jaU σ 20 S')) → jc_M_copyGoes_11 D kk (nI c) (nI m) (nI k) u (jaU σ 20 S') := by
    intro R
    induction R with
    | nil =>
      intro k m s1 e1 S' u hs' he' hF hW1 hm hm4 hr hlt hk
      have hm : m = k := hm
      apply jb_M_copyGoes_11
      simp (disch := first | omega | decide) only [jaU_eq, jaU_U, nI_add, pk_mul, jaIx_nI, vp_inT, true_and, and_true, ↓jaO0, ↓jaO1, nI_z, nI_z2, nI_z3, nI_z4, nI_z5, nI_lt', nI_le', nI_eq', jaUI_at, jaPt_eq, jaPt_ne, jaUI_o, jaUI_2, jaUL_at, jaUL_o, jaUL_1, jaB_z, jaB_1, ↓jaB_01, Classical.not_not, and_self, true_or, or_true, nI_11, Nat.reduceEqDiff, Nat.reduceAdd, Nat.reduceMul, Nat.add_zero, Nat.zero_add, Nat.mul_zero, not_true_eq_false, not_false_eq_true, false_implies, true_implies]
      refine ⟨fun _ => hk S' hs' he' hF, fun q => absurd q (by omega)⟩
    | cons i R ih =>
      intro k m s1 e1 S' u hs' he' hF hW1 hm hm4 hr hlt hk
      have hm : m = k + (R.length + 1) := hm
      have hi := hlt i List.mem_cons_self
      have hO1 := hW1.O
      have h0 : S'.1 82 0 k = nI i := hr 0 (Nat.succ_pos _)
      have hr' : ∀ S'' : jaS, S''.1 82 = S'.1 82 → ∀ q, q < R.length → S''.1 82 0 (k + 1 + q) = nI (R.getD q 0) := fun S'' h82 q hq => by
        rw [h82, show k + 1 + q = k + (q + 1) by omega]
        exact hr (q + 1) (by show q + 1 < R.length + 1; omega)
      obtain ⟨w1, w2⟩ := jvTk1_W hW1 hc3 hi
      have e34 : jz (jvTk1 d c i (s1, e1)).1 34 = jz s1 34 := jz_c (w2.1 34 (Or.inr (Or.inl rfl)))
      have hgo : ∀ (S'' : jaS) u, S''.1 72 0 = (jvTk1 d c i (s1, e1)).1 → S''.1 76 0 = (jvTk1 d c i (s1, e1)).2 → jaFr [72, 76, 80, 82] [29] S S'' → S''.1 82 = S'.1 82 → jc_M_copyGoes_11 D kk (nI c) (nI m) (nI (k + 1)) u (jaU σ 20 S'') := fun S'' u a b f g =>
        ih (k + 1) m _ _ S'' u a b f w1 (by omega) hm4 (hr' S'' g) (fun x hx => by rw [e34]; exact hlt x (List.mem_cons_of_mem _ hx)) hk
      apply jb_M_copyGoes_11
      simp (disch := first | omega | decide) only [jaU_eq, jaU_U, nI_add, pk_mul, jaIx_nI, vp_inT, true_and, and_true, ↓jaO0, ↓jaO1, nI_z, nI_z2, nI_z3, nI_z4, nI_z5, nI_lt', nI_le', nI_eq', jaUI_at, jaPt_eq, jaPt_ne, jaUI_o, jaUI_2, jaUL_at, jaUL_o, jaUL_1, jaB_z, jaB_1, ↓jaB_01, Classical.not_not, and_self, true_or, or_true, nI_11, Nat.reduceEqDiff, Nat.reduceAdd, Nat.reduceMul, Nat.add_zero, Nat.zero_add, Nat.mul_zero, not_true_eq_false, not_false_eq_true, false_implies, true_implies, h0]
      refine ⟨fun q => absurd q (by omega), fun _ => ?_⟩
      apply sp_M_isLong (by omega) hs' he' (by omega) (hW1.o.ids i hi).1 (hW1.o.ids i hi).2
      simp (disch := first | omega | decide) only [jaU_eq, jaU_U, nI_add, pk_mul, jaIx_nI, vp_inT, true_and, and_true, ↓jaO0, ↓jaO1, nI_z, nI_z2, nI_z3, nI_z4, nI_z5, nI_lt', nI_le', nI_eq', jaUI_at, jaPt_eq, jaPt_ne, jaUI_o, jaUI_2, jaUL_at, jaUL_o, jaUL_1, jaB_z, jaB_1, ↓jaB_01, Classical.not_not, and_self, true_or, or_true, nI_11, Nat.reduceEqDiff, Nat.reduceAdd, Nat.reduceMul, Nat.add_zero, Nat.zero_add, Nat.mul_zero, not_true_eq_false, not_false_eq_true, false_implies, true_implies, h0]
      unfold jvTk1 at hgo
      refine ⟨fun q => ?_, fun q => ?_⟩
      · rw [jaIf1_f q] at hgo
        refine sp_M_executes (by omega) hs' ((congrFun (hF.s 75 (by decide) (by decide)) 0).trans hd) he' hc3 hi hW1.X (fun S2 a b f => hgo S2 _ a b (hF.trans (f.mono (by decide) (by decide))) (f.s 82 (by decide) (by decide)))
      · rw [jaIf1_t q] at hgo
        refine hgo _ _ ?_ ?_ ?_ ?_
        · simp (disch := first | omega | decide) only [jaU_eq, jaU_U, nI_add, pk_mul, jaIx_nI, vp_inT, true_and, and_true, ↓jaO0, ↓jaO1, nI_z, nI_z2, nI_z3, nI_z4, nI_z5, nI_lt', nI_le', nI_eq', jaUI_at, jaPt_eq, jaPt_ne, jaUI_o, jaUI_2, jaUL_at, jaUL_o, jaUL_1, jaB_z, jaB_1, ↓jaB_01, Classical.not_not, and_self, true_or, or_true, nI_11, Nat.reduceEqDiff, Nat.reduceAdd, Nat.reduceMul, Nat.add_zero, Nat.zero_add, Nat.mul_zero, not_true_eq_false, not_false_eq_true, false_implies, true_implies, hs']
        · simp (disch := first | omega | decide) only [jaU_eq, jaU_U, nI_add, pk_mul, jaIx_nI, vp_inT, true_and, and_true, ↓jaO0, ↓jaO1, nI_z, nI_z2, nI_z3, nI_z4, nI_z5, nI_lt', nI_le', nI_eq', jaUI_at, jaPt_eq, jaPt_ne, jaUI_o, jaUI_2, jaUL_at, jaUL_o, jaUL_1, jaB_z, jaB_1, ↓jaB_01, Classical.not_not, and_self, true_or, or_true, nI_11, Nat.reduceEqDiff, Nat.reduceAdd, Nat.reduceMul, Nat.add_zero, Nat.zero_add, Nat.mul_zero, not_true_eq_false, not_false_eq_true, false_implies, true_implies, he']
        · (repeat' first | assumption | exact jaFr.rfl | refine jaFr.ui ?_ (by decide) (by decide) | refine jaFr.uf ?_ (by decide) | exact jaFr.mono (by assumption) (by decide) (by decide))
        · simp (disch := first | omega | decide) only [jaU_eq, jaU_U, nI_add, pk_mul, jaIx_nI, vp_inT, true_and, and_true, ↓jaO0, ↓jaO1, nI_z, nI_z2, nI_z3, nI_z4, nI_z5, nI_lt', nI_le', nI_eq', jaUI_at, jaPt_eq, jaPt_ne, jaUI_o, jaUI_2, jaUL_at, jaUL_o, jaUL_1, jaB_z, jaB_1, ↓jaB_01, Classical.not_not, and_self, true_or, or_true, nI_11, Nat.reduceEqDiff, Nat.reduceAdd, Nat.reduceMul, Nat.add_zero, Nat.zero_add, Nat.mul_zero, not_true_eq_false, not_false_eq_true, false_implies, true_implies]
  have L5 : ∀ (n k : Nat) (A : List Nat) (s1 e1 : jvA) (S' : jaS) (u : Option jaV), S'.1 72 0 = s1 → S'.1 76 0 = e1 → jaFr [72, 76, 80, 82] [29] S S' → jW s1 d e1 → c < jz s1 2 → k + n = jz s1 34 → A.length ≤ jz s1 (25 + c) → (∀ q, q < A.length → S'.1 82 0 q = nI (A.getD q 0)) → (∀ i, i ∈ A → i < jz s1 34) →
      (∀ S', S'.1 72 0 = (jvTk d c (A ++ jvPk (jvRdy s1 e1 c) (jvAt s1 c) n k (jz s1 (25 + c) - A.length)) (s1, e1)).1 → S'.1 76 0 = (jvTk d c (A ++ jvPk (jvRdy s1 e1 c) (jvAt s1 c) n k (jz s1 (25 + c) - A.length)) (s1, e1)).2 → jaFr [72, 76, 80, 82] [29] S S' → kk (jaU σ 20 S')) → jc_M_copyGoes_5 D kk (nI c) (nI A.length) (nI k) u (jaU σ 20 S') := by
    intro n
    induction n with
    | zero =>
      intro k A s1 e1 S' u hs' he' hF hW1 hc1 hk hA hr hlt hp
      have hO1 := hW1.o.ord
      have hw4 := (hW1.w.2.2.2.2.2.2 c hc1).2.2.1
      apply jb_M_copyGoes_5
      simp (disch := first | omega | decide) only [jaU_eq, jaU_U, nI_add, pk_mul, jaIx_nI, vp_inT, true_and, and_true, ↓jaO0, ↓jaO1, nI_z, nI_z2, nI_z3, nI_z4, nI_z5, nI_lt', nI_le', nI_eq', jaUI_at, jaPt_eq, jaPt_ne, jaUI_o, jaUI_2, jaUL_at, jaUL_o, jaUL_1, jaB_z, jaB_1, ↓jaB_01, Classical.not_not, and_self, true_or, or_true, nI_11, Nat.reduceEqDiff, Nat.reduceAdd, Nat.reduceMul, Nat.add_zero, Nat.zero_add, Nat.mul_zero, not_true_eq_false, not_false_eq_true, false_implies, true_implies, hs']
      rw [hO1.1]
      simp (disch := first | omega | decide) only [jaU_eq, jaU_U, nI_add, pk_mul, jaIx_nI, vp_inT, true_and, and_true, ↓jaO0, ↓jaO1, nI_z, nI_z2, nI_z3, nI_z4, nI_z5, nI_lt', nI_le', nI_eq', jaUI_at, jaPt_eq, jaPt_ne, jaUI_o, jaUI_2, jaUL_at, jaUL_o, jaUL_1, jaB_z, jaB_1, ↓jaB_01, Classical.not_not, and_self, true_or, or_true, nI_11, Nat.reduceEqDiff, Nat.reduceAdd, Nat.reduceMul, Nat.add_zero, Nat.zero_add, Nat.mul_zero, not_true_eq_false, not_false_eq_true, false_implies, true_implies]
      refine ⟨fun _ => ?_, fun q => absurd (by omega) q⟩
      rw [jvPk, List.append_nil] at hp
      exact L11 A 0 A.length s1 e1 S' u hs' he' hF hW1 (by omega) (by omega) (fun q hq => by rw [Nat.zero_add]; exact hr q hq) hlt hp
    | succ n ih =>
      intro k A s1 e1 S' u hs' he' hF hW1 hc1 hk hA hr hlt hp
      have hO1 := hW1.o.ord
      have hw0 := hW1.w.2.2.2.2.2.2 c hc1
      obtain ⟨hw1, hw2, hw4, hw5⟩ := hw0
      have hat := jvAt_lt (s := s1) (c := c) (k := k) (by omega)
      rw [jvPk] at hp
      have hskip : ∀ u, (A.length = jz s1 (25 + c) ∨ ¬ jvRdy s1 e1 c (jvAt s1 c k)) → jc_M_copyGoes_5 D kk (nI c) (nI A.length) (nI (k + 1)) u (jaU σ 20 S') := fun u hq => by
        rw [jaIf1_t (by rcases hq with hq | hq; exact Or.inl (by omega); exact Or.inr hq)] at hp
        exact ih (k + 1) A s1 e1 S' u hs' he' hF hW1 hc1 (by omega) hA hr hlt hp
      have htake : ∀ u, ¬ A.length = jz s1 (25 + c) → jvRdy s1 e1 c (jvAt s1 c k) → jc_M_copyGoes_5 D kk (nI c) (nI (A.length + 1)) (nI (k + 1)) u (jaU σ 20 (jaUI S' 82 0 A.length (nI (jvAt s1 c k)))) := fun u hq1 hq2 => by
        rw [jaIf1_f (fun x => x.elim (fun y => hq1 (by omega)) (fun y => y hq2))] at hp
        have e1 : (A ++ [jvAt s1 c k]).length = A.length + 1 := List.length_append
        rw [← e1]
        refine ih (k + 1) (A ++ [jvAt s1 c k]) s1 _ _ u ?_ ?_ ?_ hW1 hc1 (by omega) (by omega) (fun q hq => ?_) (fun i hi => ?_) ?_
        · simp (disch := first | omega | decide) only [jaU_eq, jaU_U, nI_add, pk_mul, jaIx_nI, vp_inT, true_and, and_true, ↓jaO0, ↓jaO1, nI_z, nI_z2, nI_z3, nI_z4, nI_z5, nI_lt', nI_le', nI_eq', jaUI_at, jaPt_eq, jaPt_ne, jaUI_o, jaUI_2, jaUL_at, jaUL_o, jaUL_1, jaB_z, jaB_1, ↓jaB_01, Classical.not_not, and_self, true_or, or_true, nI_11, Nat.reduceEqDiff, Nat.reduceAdd, Nat.reduceMul, Nat.add_zero, Nat.zero_add, Nat.mul_zero, not_true_eq_false, not_false_eq_true, false_implies, true_implies, hs']
        · simp (disch := first | omega | decide) only [jaU_eq, jaU_U, nI_add, pk_mul, jaIx_nI, vp_inT, true_and, and_true, ↓jaO0, ↓jaO1, nI_z, nI_z2, nI_z3, nI_z4, nI_z5, nI_lt', nI_le', nI_eq', jaUI_at, jaPt_eq, jaPt_ne, jaUI_o, jaUI_2, jaUL_at, jaUL_o, jaUL_1, jaB_z, jaB_1, ↓jaB_01, Classical.not_not, and_self, true_or, or_true, nI_11, Nat.reduceEqDiff, Nat.reduceAdd, Nat.reduceMul, Nat.add_zero, Nat.zero_add, Nat.mul_zero, not_true_eq_false, not_false_eq_true, false_implies, true_implies, he']
        · (repeat' first | assumption | exact jaFr.rfl | refine jaFr.ui ?_ (by decide) (by decide) | refine jaFr.uf ?_ (by decide) | exact jaFr.mono (by assumption) (by decide) (by decide))
        · simp (disch := first | omega | decide) only [jaU_eq, jaU_U, nI_add, pk_mul, jaIx_nI, vp_inT, true_and, and_true, ↓jaO0, ↓jaO1, nI_z, nI_z2, nI_z3, nI_z4, nI_z5, nI_lt', nI_le', nI_eq', jaUI_at, jaPt_eq, jaPt_ne, jaUI_o, jaUI_2, jaUL_at, jaUL_o, jaUL_1, jaB_z, jaB_1, ↓jaB_01, Classical.not_not, and_self, true_or, or_true, nI_11, Nat.reduceEqDiff, Nat.reduceAdd, Nat.reduceMul, Nat.add_zero, Nat.zero_add, Nat.mul_zero, not_true_eq_false, not_false_eq_true, false_implies, true_implies]
          by_cases e2 : q = A.length
          · rw [e2, jaPt_eq, List.getD_eq_getElem?_getD, List.getElem?_append_right (Nat.le_refl _), Nat.sub_self]
            rfl
          · rw [jaPt_ne e2, hr q (by omega), List.getD_eq_getElem?_getD, List.getD_eq_getElem?_getD, List.getElem?_append_left (by omega)]
        · rcases List.mem_append.mp hi with hi | hi
          · exact hlt i hi
          · rw [List.mem_singleton.mp hi]
            exact hat
        · rw [e1, List.append_assoc]
          rw [Nat.sub_sub] at hp
          exact hp
      apply jb_M_copyGoes_5
      simp (disch := first | omega | decide) only [jaU_eq, jaU_U, nI_add, pk_mul, jaIx_nI, vp_inT, true_and, and_true, ↓jaO0, ↓jaO1, nI_z, nI_z2, nI_z3, nI_z4, nI_z5, nI_lt', nI_le', nI_eq', jaUI_at, jaPt_eq, jaPt_ne, jaUI_o, jaUI_2, jaUL_at, jaUL_o, jaUL_1, jaB_z, jaB_1, ↓jaB_01, Classical.not_not, and_self, true_or, or_true, nI_11, Nat.reduceEqDiff, Nat.reduceAdd, Nat.reduceMul, Nat.add_zero, Nat.zero_add, Nat.mul_zero, not_true_eq_false, not_false_eq_true, false_implies, true_implies, hs', hw1]
      rw [hO1.1]
      simp (disch := first | omega | decide) only [jaU_eq, jaU_U, nI_add, pk_mul, jaIx_nI, vp_inT, true_and, and_true, ↓jaO0, ↓jaO1, nI_z, nI_z2, nI_z3, nI_z4, nI_z5, nI_lt', nI_le', nI_eq', jaUI_at, jaPt_eq, jaPt_ne, jaUI_o, jaUI_2, jaUL_at, jaUL_o, jaUL_1, jaB_z, jaB_1, ↓jaB_01, Classical.not_not, and_self, true_or, or_true, nI_11, Nat.reduceEqDiff, Nat.reduceAdd, Nat.reduceMul, Nat.add_zero, Nat.zero_add, Nat.mul_zero, not_true_eq_false, not_false_eq_true, false_implies, true_implies, nI_sub]
      refine ⟨fun q => absurd q (by omega), fun _ => ?_⟩
      refine ⟨fun q => ?_, fun q => ?_⟩
      · have ea : jvAt s1 c k = k := jaIf1_f q
        rw [ea] at hskip htake hat
        refine ⟨fun q1 => hskip _ (Or.inl q1), fun q1 => ?_⟩
        apply sp_M_isReady (by omega) hs' he' hc3 (by omega) (fun i hi => hW1.o.ids i (by omega))
        simp (disch := first | omega | decide) only [jaU_eq, jaU_U, nI_add, pk_mul, jaIx_nI, vp_inT, true_and, and_true, ↓jaO0, ↓jaO1, nI_z, nI_z2, nI_z3, nI_z4, nI_z5, nI_lt', nI_le', nI_eq', jaUI_at, jaPt_eq, jaPt_ne, jaUI_o, jaUI_2, jaUL_at, jaUL_o, jaUL_1, jaB_z, jaB_1, ↓jaB_01, Classical.not_not, and_self, true_or, or_true, nI_11, Nat.reduceEqDiff, Nat.reduceAdd, Nat.reduceMul, Nat.add_zero, Nat.zero_add, Nat.mul_zero, not_true_eq_false, not_false_eq_true, false_implies, true_implies]
        exact ⟨fun q2 => htake _ q1 q2, fun q2 => hskip _ (Or.inr q2)⟩
      · have ea : jvAt s1 c k = jz s1 34 - 1 - k := jaIf1_t q
        rw [ea] at hskip htake hat
        refine ⟨fun q1 => hskip _ (Or.inl q1), fun q1 => ?_⟩
        apply sp_M_isReady (by omega) hs' he' hc3 (by omega) (fun i hi => hW1.o.ids i (by omega))
        simp (disch := first | omega | decide) only [jaU_eq, jaU_U, nI_add, pk_mul, jaIx_nI, vp_inT, true_and, and_true, ↓jaO0, ↓jaO1, nI_z, nI_z2, nI_z3, nI_z4, nI_z5, nI_lt', nI_le', nI_eq', jaUI_at, jaPt_eq, jaPt_ne, jaUI_o, jaUI_2, jaUL_at, jaUL_o, jaUL_1, jaB_z, jaB_1, ↓jaB_01, Classical.not_not, and_self, true_or, or_true, nI_11, Nat.reduceEqDiff, Nat.reduceAdd, Nat.reduceMul, Nat.add_zero, Nat.zero_add, Nat.mul_zero, not_true_eq_false, not_false_eq_true, false_implies, true_implies]
        exact ⟨fun q2 => htake _ q1 q2, fun q2 => hskip _ (Or.inr q2)⟩
  apply js_M_copyGoes
  refine jaFor (C := fun k => ∀ S', S'.1 72 0 = (jvPs d c (s, e) k).1 → S'.1 76 0 = (jvPs d c (s, e) k).2 → jaFr [72, 76, 80, 82] [29] S S' → jc_M_copyGoes_1 D kk (nI c) (nI k) (jaU σ 20 S')) (N := jz s 34) ?_ (fun k hk ih => ?_) S hs he jaFr.rfl
  · intro S' hs' he' hF
    obtain ⟨w1, w2⟩ := jvPs_W hW hc3 _ (Nat.le_refl _)
    have h' : ∀ S', S'.1 72 0 = (jvTk d c (jvPks (jvPs d c (s, e) (jz s 34)).1 (jvPs d c (s, e) (jz s 34)).2 c) (jvPs d c (s, e) (jz s 34))).1 → S'.1 76 0 = (jvTk d c (jvPks (jvPs d c (s, e) (jz s 34)).1 (jvPs d c (s, e) (jz s 34)).2 c) (jvPs d c (s, e) (jz s 34))).2 → jaFr [72, 76, 80, 82] [29] S S' → kk (jaU σ 20 S') := h
    have e34 : jz (jvPs d c (s, e) (jz s 34)).1 34 = jz s 34 := jz_c (w2.1 34 (Or.inr (Or.inl rfl)))
    have e2 : jz (jvPs d c (s, e) (jz s 34)).1 2 = jz s 2 := jz_c (w2.1 2 (Or.inl (by decide)))
    generalize jvPs d c (s, e) (jz s 34) = x at *
    obtain ⟨s1, e1⟩ := x
    apply jb_M_copyGoes_1
    simp (disch := first | omega | decide) only [jaU_eq, jaU_U, nI_add, pk_mul, jaIx_nI, vp_inT, true_and, and_true, ↓jaO0, ↓jaO1, nI_z, nI_z2, nI_z3, nI_z4, nI_z5, nI_lt', nI_le', nI_eq', jaUI_at, jaPt_eq, jaPt_ne, jaUI_o, jaUI_2, jaUL_at, jaUL_o, jaUL_1, jaB_z, jaB_1, ↓jaB_01, Classical.not_not, and_self, true_or, or_true, nI_11, Nat.reduceEqDiff, Nat.reduceAdd, Nat.reduceMul, Nat.add_zero, Nat.zero_add, Nat.mul_zero, not_true_eq_false, not_false_eq_true, false_implies, true_implies, hs']
    rw [show s1 34 = nI (jz s1 34) from w1.o.ord.1, e34]
    simp (disch := first | omega | decide) only [jaU_eq, jaU_U, nI_add, pk_mul, jaIx_nI, vp_inT, true_and, and_true, ↓jaO0, ↓jaO1, nI_z, nI_z2, nI_z3, nI_z4, nI_z5, nI_lt', nI_le', nI_eq', jaUI_at, jaPt_eq, jaPt_ne, jaUI_o, jaUI_2, jaUL_at, jaUL_o, jaUL_1, jaB_z, jaB_1, ↓jaB_01, Classical.not_not, and_self, true_or, or_true, nI_11, Nat.reduceEqDiff, Nat.reduceAdd, Nat.reduceMul, Nat.add_zero, Nat.zero_add, Nat.mul_zero, not_true_eq_false, not_false_eq_true, false_implies, true_implies]
    refine ⟨fun _ => ?_, fun q => absurd (by omega) q⟩
    refine L5 (jz s 34) 0 [] s1 e1 S' _ hs' he' hF w1 (by rw [e2]; exact hc) (by rw [e34]; omega) (Nat.zero_le _) (fun q hq => absurd hq (Nat.not_lt_zero _)) (fun i hi => by simp at hi) ?_
    intro S2 a b f
    refine h' S2 ?_ ?_ f
    · rw [a]
      show _ = (jvTk d c (jvPk _ _ (jz s1 34) 0 (jz s1 (25 + c))) _).1
      rw [e34]
      rfl
    · rw [b]
      show _ = (jvTk d c (jvPk _ _ (jz s1 34) 0 (jz s1 (25 + c))) _).2
      rw [e34]
      rfl
  · intro S' hs' he' hF
    obtain ⟨w1, w2⟩ := jvPs_W hW hc3 k (by omega)
    have hstep : jvPs d c (s, e) (k + 1) = jvPs1 d c k (jvPs d c (s, e) k) := rfl
    rw [hstep] at ih
    have e34 : jz (jvPs d c (s, e) k).1 34 = jz s 34 := jz_c (w2.1 34 (Or.inr (Or.inl rfl)))
    generalize jvPs d c (s, e) k = x at *
    obtain ⟨s1, e1⟩ := x
    have e34 : jz s1 34 = jz s 34 := e34
    rw [jvPs1_eq] at ih
    apply jb_M_copyGoes_1
    simp (disch := first | omega | decide) only [jaU_eq, jaU_U, nI_add, pk_mul, jaIx_nI, vp_inT, true_and, and_true, ↓jaO0, ↓jaO1, nI_z, nI_z2, nI_z3, nI_z4, nI_z5, nI_lt', nI_le', nI_eq', jaUI_at, jaPt_eq, jaPt_ne, jaUI_o, jaUI_2, jaUL_at, jaUL_o, jaUL_1, jaB_z, jaB_1, ↓jaB_01, Classical.not_not, and_self, true_or, or_true, nI_11, Nat.reduceEqDiff, Nat.reduceAdd, Nat.reduceMul, Nat.add_zero, Nat.zero_add, Nat.mul_zero, not_true_eq_false, not_false_eq_true, false_implies, true_implies, hs']
    rw [show s1 34 = nI (jz s1 34) from w1.o.ord.1, e34]
    simp (disch := first | omega | decide) only [jaU_eq, jaU_U, nI_add, pk_mul, jaIx_nI, vp_inT, true_and, and_true, ↓jaO0, ↓jaO1, nI_z, nI_z2, nI_z3, nI_z4, nI_z5, nI_lt', nI_le', nI_eq', jaUI_at, jaPt_eq, jaPt_ne, jaUI_o, jaUI_2, jaUL_at, jaUL_o, jaUL_1, jaB_z, jaB_1, ↓jaB_01, Classical.not_not, and_self, true_or, or_true, nI_11, Nat.reduceEqDiff, Nat.reduceAdd, Nat.reduceMul, Nat.add_zero, Nat.zero_add, Nat.mul_zero, not_true_eq_false, not_false_eq_true, false_implies, true_implies]
    refine ⟨fun q => absurd q (by omega), fun _ => ?_⟩
    apply sp_M_howIn (by omega) hs' hc3 (by omega)
    simp (disch := first | omega | decide) only [jaU_eq, jaU_U, nI_add, pk_mul, jaIx_nI, vp_inT, true_and, and_true, ↓jaO0, ↓jaO1, nI_z, nI_z2, nI_z3, nI_z4, nI_z5, nI_lt', nI_le', nI_eq', jaUI_at, jaPt_eq, jaPt_ne, jaUI_o, jaUI_2, jaUL_at, jaUL_o, jaUL_1, jaB_z, jaB_1, ↓jaB_01, Classical.not_not, and_self, true_or, or_true, nI_11, Nat.reduceEqDiff, Nat.reduceAdd, Nat.reduceMul, Nat.add_zero, Nat.zero_add, Nat.mul_zero, not_true_eq_false, not_false_eq_true, false_implies, true_implies, hs']
    refine ⟨fun q => ?_, fun q => ?_⟩
    · rw [jaIf1_t q] at ih
      have hsd : (jaUI S' 72 0 (295 + 40 * c + k) (s1 (295 + 40 * c + k) - nI 1)).1 72 0 = jvDn s1 c k := by
        simp (disch := first | omega | decide) only [jaU_eq, jaU_U, nI_add, pk_mul, jaIx_nI, vp_inT, true_and, and_true, ↓jaO0, ↓jaO1, nI_z, nI_z2, nI_z3, nI_z4, nI_z5, nI_lt', nI_le', nI_eq', jaUI_at, jaPt_eq, jaPt_ne, jaUI_o, jaUI_2, jaUL_at, jaUL_o, jaUL_1, jaB_z, jaB_1, ↓jaB_01, Classical.not_not, and_self, true_or, or_true, nI_11, Nat.reduceEqDiff, Nat.reduceAdd, Nat.reduceMul, Nat.add_zero, Nat.zero_add, Nat.mul_zero, not_true_eq_false, not_false_eq_true, false_implies, true_implies, hs']
        rfl
      have hed : (jaUI S' 72 0 (295 + 40 * c + k) (s1 (295 + 40 * c + k) - nI 1)).1 76 0 = e1 := by
        simp (disch := first | omega | decide) only [jaU_eq, jaU_U, nI_add, pk_mul, jaIx_nI, vp_inT, true_and, and_true, ↓jaO0, ↓jaO1, nI_z, nI_z2, nI_z3, nI_z4, nI_z5, nI_lt', nI_le', nI_eq', jaUI_at, jaPt_eq, jaPt_ne, jaUI_o, jaUI_2, jaUL_at, jaUL_o, jaUL_1, jaB_z, jaB_1, ↓jaB_01, Classical.not_not, and_self, true_or, or_true, nI_11, Nat.reduceEqDiff, Nat.reduceAdd, Nat.reduceMul, Nat.add_zero, Nat.zero_add, Nat.mul_zero, not_true_eq_false, not_false_eq_true, false_implies, true_implies, he']
      have hFd : jaFr [72, 76, 80, 82] [29] S (jaUI S' 72 0 (295 + 40 * c + k) (s1 (295 + 40 * c + k) - nI 1)) := by
        (repeat' first | assumption | exact jaFr.rfl | refine jaFr.ui ?_ (by decide) (by decide) | refine jaFr.uf ?_ (by decide) | exact jaFr.mono (by assumption) (by decide) (by decide))
      generalize jaUI S' 72 0 (295 + 40 * c + k) (s1 (295 + 40 * c + k) - nI 1) = S2 at *
      have ed : jvDn s1 c k (295 + 40 * c + k) = s1 (295 + 40 * c + k) - nI 1 := jaPt_eq
      refine ⟨fun q2 => ?_, fun q2 => ?_⟩
      · rw [jaIf1_f (by rw [ed]; exact q2)] at ih
        exact ih S2 hsd hed hFd
      · rw [jaIf1_t (by rw [ed]; exact q2)] at ih
        have z34 : jz (jvDn s1 c k) 34 = jz s1 34 := jz_c (jaPt_ne (by omega))
        exact sp_M_executes (by omega) hsd ((congrFun (hFd.s 75 (by decide) (by decide)) 0).trans hd) hed hc3 (by rw [z34]; omega) (jX_295 w1.X hc3 (by omega)) (fun S3 a b f => ih S3 a b (hFd.trans (f.mono (by decide) (by decide))))
    · rw [jaIf1_f q] at ih
      exact ih S' hs' he' hF
end
