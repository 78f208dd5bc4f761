section
/-! an epoch's end: what stays well -/
def jAg (s e : jvA) (k : Nat) (y : jvA × Nat) : Prop :=
  (∀ j, j ≠ 34 → ¬ (41 ≤ j ∧ j < 145) → y.1 j = s j) ∧ (y.1 34 = nI (jz y.1 34) ∧ jz y.1 34 ≤ 40) ∧ jz s 34 ≤ jz y.1 34 ∧ (y.2 ≤ k ∧ jz y.1 34 + y.2 = jz s 34 + k) ∧
  (∀ i, i < jz s 34 → y.1 (41 + i) = s (41 + i)) ∧
  (∀ i, i < jz y.1 34 → y.1 (41 + i) = nI (jz y.1 (41 + i)) ∧ jz y.1 (41 + i) < jz s 33) ∧
  (∀ i, i < y.2 → y.1 (81 + i) = nI (jz y.1 (81 + i)) ∧ jz y.1 (81 + i) < jz s 33) ∧
  (∀ i, k ≤ i → i < jz s 35 → y.1 (81 + i) = s (81 + i)) ∧
  (∀ i j, i < j → j < y.2 → jz y.1 (81 + i) < jz y.1 (81 + j)) ∧ (∀ i j, i < y.2 → k ≤ j → j < jz s 35 → jz y.1 (81 + i) < jz s (81 + j)) ∧
  (∀ i j, i < j → j < jz y.1 34 → jz y.1 (41 + i) ≠ jz y.1 (41 + j)) ∧ (∀ i j, i < jz y.1 34 → j < y.2 → jz y.1 (41 + i) ≠ jz y.1 (81 + j)) ∧
  (∀ i j, i < jz y.1 34 → k ≤ j → j < jz s 35 → jz y.1 (41 + i) ≠ jz s (81 + j))
theorem jAg_0 {s e : jvA} (ho : jWo s) : jAg s e 0 (s, 0) := by
  obtain ⟨h0, h1, h2, h3, h4, h5, h6, h7, h8, h9, h10, h11⟩ := ho
  exact ⟨fun _ _ _ => rfl, h2, Nat.le_refl _, ⟨Nat.le_refl _, rfl⟩, fun _ _ => rfl, h6, fun i hi => absurd hi (Nat.not_lt_zero _), fun _ _ _ => rfl, fun _ _ _ hj => absurd hj (Nat.not_lt_zero _), fun _ _ hi => absurd hi (Nat.not_lt_zero _), h9, fun _ _ _ hj => absurd hj (Nat.not_lt_zero _), fun i j hi _ hj => h10 i j hi hj⟩
theorem jAg_s {s e : jvA} {x k : Nat} {y : jvA × Nat} (ho : jWo s) (hk : k < jz s 35) (h : jAg s e k y) : jAg s e (k + 1) (jvAs1 e x k y) := by
  obtain ⟨y1, y2⟩ := y
  obtain ⟨a1, ⟨a2, a2'⟩, a3, ⟨a4, a4'⟩, a5, a6, a7, a8, a9, a10, a11, a12, a13⟩ := h
  have hC := ho.came.2
  obtain ⟨c1, c2⟩ := ho.come hk
  have hinc := ho.2.2.2.2.2.2.2.2.1
  simp only [] at a1 a2 a2' a3 a4 a4' a5 a6 a7 a8 a9 a10 a11 a12 a13
  have hid : y1 (81 + k) = s (81 + k) := a8 k (Nat.le_refl _) hk
  unfold jvAs1
  simp only []
  by_cases q : e (9 * jaIx (y1 (81 + k)) + 1) = nI x ∧ ¬ nI 40 ≤ y1 34
  · rw [jaIf1_t q]
    have q40 : jz y1 34 < 40 := by
      have := q.2
      rw [a2, nI_le' (by omega) (by omega)] at this
      omega
    have ne : ∀ j, j ≠ 34 → j ≠ 41 + jz y1 34 → jaPt (jaPt y1 (41 + jz y1 34) (y1 (81 + k))) 34 (y1 34 + nI 1) j = y1 j := fun j h1 h2 => by rw [jaPt_ne h1, jaPt_ne h2]
    have e34 : jaPt (jaPt y1 (41 + jz y1 34) (y1 (81 + k))) 34 (y1 34 + nI 1) 34 = nI (jz y1 34 + 1) := by rw [jaPt_eq, a2, nI_add]
    have eO : jaPt (jaPt y1 (41 + jz y1 34) (y1 (81 + k))) 34 (y1 34 + nI 1) (41 + jz y1 34) = s (81 + k) := by rw [jaPt_ne (by omega), jaPt_eq, hid]
    have z34 : jz (jaPt (jaPt y1 (41 + jz y1 34) (y1 (81 + k))) 34 (y1 34 + nI 1)) 34 = jz y1 34 + 1 := (congrArg jaIx e34).trans (jaIx_nI (by omega))
    have zO : jz (jaPt (jaPt y1 (41 + jz y1 34) (y1 (81 + k))) 34 (y1 34 + nI 1)) (41 + jz y1 34) = jz s (81 + k) := congrArg jaIx eO
    have nz : ∀ j, j ≠ 34 → j ≠ 41 + jz y1 34 → jz (jaPt (jaPt y1 (41 + jz y1 34) (y1 (81 + k))) 34 (y1 34 + nI 1)) j = jz y1 j := fun j h1 h2 => jz_c (ne j h1 h2)
    generalize jaPt (jaPt y1 (41 + jz y1 34) (y1 (81 + k))) 34 (y1 34 + nI 1) = Y at *
    refine ⟨fun j h1 h2 => ?_, ⟨?_, ?_⟩, ?_, ⟨?_, ?_⟩, fun i hi => ?_, fun i hi => ?_, fun i hi => ?_, fun i h1 h2 => ?_, fun i j h1 h2 => ?_, fun i j h1 h2 h3 => ?_, fun i j h1 h2 => ?_, fun i j h1 h2 => ?_, fun i j h1 h2 h3 => ?_⟩ <;> simp only [] at * <;> (try rw [z34] at *)
    · rw [ne j h1 (by omega)]; exact a1 j h1 h2
    · exact e34
    · omega
    · omega
    · omega
    · omega
    · rw [ne _ (by omega) (by omega)]; exact a5 i hi
    · by_cases e1 : i = jz y1 34
      · rw [e1, zO, eO]; exact ⟨c1, c2⟩
      · rw [ne _ (by omega) (by omega), nz _ (by omega) (by omega)]; exact a6 i (by omega)
    · rw [ne _ (by omega) (by omega), nz _ (by omega) (by omega)]; exact a7 i hi
    · rw [ne _ (by omega) (by omega)]; exact a8 i (by omega) h2
    · rw [nz _ (by omega) (by omega), nz _ (by omega) (by omega)]; exact a9 i j h1 h2
    · rw [nz _ (by omega) (by omega)]; exact a10 i j h1 (by omega) h3
    · by_cases e1 : j = jz y1 34
      · rw [e1, zO, nz _ (by omega) (by omega)]; exact a13 i k (by omega) (Nat.le_refl _) hk
      · rw [nz _ (by omega) (by omega), nz _ (by omega) (by omega)]; exact a11 i j h1 (by omega)
    · by_cases e1 : i = jz y1 34
      · rw [e1, zO, nz _ (by omega) (by omega)]
        have := a10 j k h2 (Nat.le_refl _) hk
        omega
      · rw [nz _ (by omega) (by omega), nz _ (by omega) (by omega)]; exact a12 i j (by omega) h2
    · by_cases e1 : i = jz y1 34
      · rw [e1, zO]
        have := hinc k j (by omega) h3
        omega
      · rw [nz _ (by omega) (by omega)]; exact a13 i j (by omega) (by omega) h3
  · rw [jaIf1_f q]
    have ne : ∀ j, j ≠ 81 + y2 → jaPt y1 (81 + y2) (y1 (81 + k)) j = y1 j := fun j h1 => jaPt_ne h1
    have eO : jaPt y1 (81 + y2) (y1 (81 + k)) (81 + y2) = s (81 + k) := by rw [jaPt_eq, hid]
    have zO : jz (jaPt y1 (81 + y2) (y1 (81 + k))) (81 + y2) = jz s (81 + k) := congrArg jaIx eO
    have nz : ∀ j, j ≠ 81 + y2 → jz (jaPt y1 (81 + y2) (y1 (81 + k))) j = jz y1 j := fun j h1 => jz_c (ne j h1)
    generalize jaPt y1 (81 + y2) (y1 (81 + k)) = Y at *
    have z34 : jz Y 34 = jz y1 34 := nz 34 (by omega)
    refine ⟨fun j h1 h2 => ?_, ⟨?_, ?_⟩, ?_, ⟨?_, ?_⟩, fun i hi => ?_, fun i hi => ?_, fun i hi => ?_, fun i h1 h2 => ?_, fun i j h1 h2 => ?_, fun i j h1 h2 h3 => ?_, fun i j h1 h2 => ?_, fun i j h1 h2 => ?_, fun i j h1 h2 h3 => ?_⟩ <;> simp only [] at * <;> (try rw [z34] at *)
    · rw [ne j (by omega)]; exact a1 j h1 h2
    · rw [ne _ (by omega)]; exact a2
    · omega
    · omega
    · omega
    · omega
    · rw [ne _ (by omega)]; exact a5 i hi
    · rw [ne _ (by omega), nz _ (by omega)]; exact a6 i hi
    · by_cases e1 : i = y2
      · rw [e1, zO, eO]; exact ⟨c1, c2⟩
      · rw [ne _ (by omega), nz _ (by omega)]; exact a7 i (by omega)
    · rw [ne _ (by omega)]; exact a8 i (by omega) h2
    · by_cases e1 : j = y2
      · rw [e1, zO, nz _ (by omega)]; exact a10 i k (by omega) (Nat.le_refl _) hk
      · rw [nz _ (by omega), nz _ (by omega)]; exact a9 i j h1 (by omega)
    · by_cases e1 : i = y2
      · rw [e1, zO]; exact hinc k j (by omega) h3
      · rw [nz _ (by omega)]; exact a10 i j (by omega) (by omega) h3
    · rw [nz _ (by omega), nz _ (by omega)]; exact a11 i j h1 h2
    · by_cases e1 : j = y2
      · rw [e1, zO, nz _ (by omega)]; exact a13 i k h1 (Nat.le_refl _) hk
      · rw [nz _ (by omega), nz _ (by omega)]; exact a12 i j h1 (by omega)
    · rw [nz _ (by omega)]; exact a13 i j h1 (by omega) h3
theorem jAg_all {s e : jvA} {x : Nat} (ho : jWo s) : ∀ k, k ≤ jz s 35 → jAg s e k (jvAs s e x k)
  | 0, _ => jAg_0 ho
  | k + 1, hk => jAg_s ho (by omega) (jAg_all ho k (by omega))
theorem jvAz_at {s : jvA} {a j : Nat} : ∀ n, jvAz s a n j = jaIf1 (81 + a ≤ j ∧ j < 81 + a + n) (nI 0) (s j)
  | 0 => (jaIf1_f (by omega)).symm
  | n + 1 => by
    show jaPt (jvAz s a n) (81 + a + n) (nI 0) j = _
    by_cases h1 : j = 81 + a + n
    · rw [h1, jaPt_eq, jaIf1_t (by omega)]
    · rw [jaPt_ne h1, jvAz_at n]
      by_cases h3 : 81 + a ≤ j ∧ j < 81 + a + n
      · rw [jaIf1_t h3, jaIf1_t (by omega)]
      · rw [jaIf1_f h3, jaIf1_f (by omega)]
theorem jvSite_ne {s e : jvA} {x j : Nat} (ho : jWo s) (h : ¬ (34 ≤ j ∧ j ≤ 35) ∧ ¬ (41 ≤ j ∧ j < 145)) : jvSite e x s j = s j := by
  have hC := ho.came.2
  have ha := jAg_all (e := e) (x := x) ho _ (Nat.le_refl _)
  simp only [jvSite]
  rw [jaPt_ne (by omega), jvAz_at, jaIf1_f (by omega)]
  exact ha.1 j (by omega) h.2
theorem jaCnt_ext {p : Nat → Prop} {a : Nat} : ∀ b, a ≤ b → (∀ i, a ≤ i → i < b → ¬ p i) → jaCnt p b = jaCnt p a
  | 0, h, _ => by rw [show a = 0 by omega]
  | b + 1, h, hp => by
    by_cases e : a = b + 1
    · rw [e]
    · rw [jaCnt_f (hp b (by omega) (by omega)), jaCnt_ext b (by omega) (fun i h1 h2 => hp i h1 (by omega))]
theorem jvSite_W {s d e : jvA} {x : Nat} (h : jW s d e) : jW (jvSite e x s) d e ∧ jz s 34 ≤ jz (jvSite e x s) 34 ∧ ∀ i, i < jz s 34 → jvSite e x s (41 + i) = s (41 + i) := by
  have hC := h.o.came.2
  have hO := h.O
  have ne : ∀ j, ¬ (34 ≤ j ∧ j ≤ 35) ∧ ¬ (41 ≤ j ∧ j < 145) → jvSite e x s j = s j := fun j hj => jvSite_ne h.o hj
  have nz : ∀ j, ¬ (34 ≤ j ∧ j ≤ 35) ∧ ¬ (41 ≤ j ∧ j < 145) → jz (jvSite e x s) j = jz s j := fun j hj => jz_c (ne j hj)
  obtain ⟨a1, ⟨a2, a2'⟩, a3, ⟨a4, a4'⟩, a5, a6, a7, a8, a9, a10, a11, a12, a13⟩ := jAg_all (e := e) (x := x) h.o _ (Nat.le_refl _)
  have hdef : jvSite e x s = jaPt (jvAz (jvAs s e x (jz s 35)).1 (jvAs s e x (jz s 35)).2 (jz s 35 - (jvAs s e x (jz s 35)).2)) 35 (nI (jvAs s e x (jz s 35)).2) := rfl
  generalize jvAs s e x (jz s 35) = y at *
  obtain ⟨y1, y2⟩ := y
  simp only [] at a1 a2 a2' a3 a4 a4' a5 a6 a7 a8 a9 a10 a11 a12 a13 hdef
  have eY : ∀ j, j ≠ 35 → (j < 81 + y2 ∨ 81 + jz s 35 ≤ j) → jvSite e x s j = y1 j := fun j h1 h2 => by rw [hdef, jaPt_ne h1, jvAz_at, jaIf1_f (by omega)]
  have zY : ∀ j, j ≠ 35 → (j < 81 + y2 ∨ 81 + jz s 35 ≤ j) → jz (jvSite e x s) j = jz y1 j := fun j h1 h2 => jz_c (eY j h1 h2)
  have e35 : jvSite e x s 35 = nI y2 := by rw [hdef, jaPt_eq]
  have z35 : jz (jvSite e x s) 35 = y2 := (congrArg jaIx e35).trans (jaIx_nI (by omega))
  have e34 := eY 34 (by omega) (by omega)
  have z34 := zY 34 (by omega) (by omega)
  generalize jvSite e x s = X at *
  refine ⟨⟨?_, ?_, ?_, ?_, ?_, ?_, ?_⟩, ?_, ?_⟩
  · exact jWw_c (fun j hj => ne j (by omega)) h.w
  · exact jWd_c (ne 1 (by omega)) (ne 32 (by omega)) h.d
  · exact jWe_c (ne 1 (by omega)) (ne 32 (by omega)) (ne 33 (by omega)) h.e
  · obtain ⟨h0, h1, h2, h3, h4, h5, h6, h7, h8, h9, h10, h11⟩ := h.o
    unfold jWo
    rw [z34, z35, e34, e35, nz 32 (by omega), nz 33 (by omega), ne 32 (by omega), ne 33 (by omega)]
    refine ⟨h0, h1, ⟨a2, a2'⟩, rfl, by omega, ?_, fun i hi => ?_, fun i hi => ?_, fun i j hi hj => ?_, fun i j hi hj => ?_, fun i j hi hj => ?_, fun i hi => ?_⟩
    · rw [h5, jaCnt_c (p := fun i => X (415 + i) = nI 1) (q := fun i => s (415 + i) = nI 1) _ (fun i hi => by rw [ne (415 + i) (by omega)]), jaCnt_ext (p := fun i => s (415 + i) = nI 1) (jz y1 34) a3 (fun i h1 h2 => by rw [(h11 i (by omega)).2 h1]; decide)]
    · rw [eY _ (by omega) (by omega), zY _ (by omega) (by omega)]; exact a6 i hi
    · rw [eY _ (by omega) (by omega), zY _ (by omega) (by omega)]; exact a7 i hi
    · rw [zY _ (by omega) (by omega), zY _ (by omega) (by omega)]; exact a9 i j hi hj
    · rw [zY _ (by omega) (by omega), zY _ (by omega) (by omega)]; exact a11 i j hi hj
    · rw [zY _ (by omega) (by omega), zY _ (by omega) (by omega)]; exact a12 i j hi hj
    · rw [ne (415 + i) (by omega)]
      exact ⟨(h11 i hi).1, fun q => (h11 i hi).2 (by omega)⟩
  · intro c i hc hi
    have hb := h.c c i hc hi
    show jWc1 X c i
    have e1 := ne (175 + 40 * c + i) (by omega)
    have e2 := ne (295 + 40 * c + i) (by omega)
    unfold jWc1
    rw [e1, e2, jz_c e1, jz_c e2, z34]
    exact ⟨hb.1, fun q => hb.2.1 (by omega), hb.2.2⟩
  · obtain ⟨k1, k2, k3⟩ := h.k
    unfold jWk
    rw [ne 36 (by omega), ne 37 (by omega), ne 38 (by omega), ne 39 (by omega), ne 40 (by omega), nz 37 (by omega), nz 38 (by omega), nz 1 (by omega), nz 40 (by omega), z34]
    refine ⟨?_, ⟨k2.1, by omega⟩, fun i hi => ?_⟩
    · rcases k1 with k1 | k1
      · exact Or.inl k1
      · exact Or.inr ⟨k1.1, k1.2.1, by omega, k1.2.2.2⟩
    · rw [ne (485 + i) (by omega), nz (485 + i) (by omega)]
      exact k3 i hi
  · show X 31 = nI (jz X 31)
    rw [nz 31 (by omega), ne 31 (by omega)]
    exact h.t
  · rw [z34]
    exact a3
  · intro i hi
    rw [eY _ (by omega) (by omega)]
    exact a5 i hi
theorem jvAg2_W {s d e : jvA} (h : jW s d e) : ∀ n, jW (jvAg2 s e n) d e ∧ (∀ j, ¬ (34 ≤ j ∧ j ≤ 35) ∧ ¬ (41 ≤ j ∧ j < 145) → jvAg2 s e n j = s j) ∧ jz s 34 ≤ jz (jvAg2 s e n) 34 ∧ ∀ i, i < jz s 34 → jvAg2 s e n (41 + i) = s (41 + i)
  | 0 => ⟨h, fun _ _ => rfl, Nat.le_refl _, fun _ _ => rfl⟩
  | n + 1 => by
    obtain ⟨a, b, c, f⟩ := jvAg2_W h n
    obtain ⟨a2, c2, f2⟩ := jvSite_W (x := n) a
    refine ⟨a2, fun j hj => (jvSite_ne a.o hj).trans (b j hj), Nat.le_trans c c2, fun i hi => ?_⟩
    exact (f2 i (by omega)).trans (f i hi)
/-! a tick -/
theorem jvTn_ne {s : jvA} {j : Nat} (h10 : jz s 1 ≤ 10) (h38 : jz s 38 < 10) (h : ¬ ((36 ≤ j ∧ j ≤ 40) ∨ (455 ≤ j ∧ j < 525))) : jvTn s j = s j := by
  simp only [jvTn]
  by_cases q : s 36 = 0 ∨ ¬ jvAo s 0 (jz s 37)
  · rw [jaIf1_t q]
  · rw [jaIf1_f q]
    generalize jaIf1 (jaBt (s 39) (jz s 38)) (s (455 + jz s 38)) (s (145 + jz s 38)) = v
    have z1 : jz (jaPt (jaPt s (465 + jz s 38) v) 38 (s 38 + nI 1)) 1 = jz s 1 := jz_c (by rw [jaPt_ne (by omega), jaPt_ne (by omega)])
    by_cases q3 : s 38 + nI 1 = s 1
    · rw [jaIf1_t q3, jvSa_ne (by rw [z1]; exact h10) h, jaPt_ne (by omega), jaPt_ne (by omega)]
    · rw [jaIf1_f q3, jaPt_ne (by omega), jaPt_ne (by omega)]
theorem jW.k38 {s d e : jvA} (h : jW s d e) : jz s 38 < 10 := by
  have := h.w.2.1.2
  rcases h.k.1 with q | q
  · rw [jz, q.2.2.1]
    decide
  · have := q.2.2.2.2
    omega
noncomputable def jvT2 (s e : jvA) : jvA := jaIf1 (s 31 + nI 1 - (s 31 + nI 1) / s 3 * s 3 = 0) (jvAg2 s e (jz s 0)) s
theorem jvTick_eq {d : jvA} {x : jvA × jvA} : jvTick d x = (jaPt (jvT2 (jvTn (jvCgs d x (jz x.1 2)).1) (jvCgs d x (jz x.1 2)).2) 31 (jvT2 (jvTn (jvCgs d x (jz x.1 2)).1) (jvCgs d x (jz x.1 2)).2 31 + nI 1), (jvCgs d x (jz x.1 2)).2) := rfl
theorem jvT2_W {s d e : jvA} (h : jW s d e) : jW (jvT2 s e) d e ∧ (∀ j, ¬ (34 ≤ j ∧ j ≤ 35) ∧ ¬ (41 ≤ j ∧ j < 145) → jvT2 s e j = s j) := by
  unfold jvT2
  by_cases q : s 31 + nI 1 - (s 31 + nI 1) / s 3 * s 3 = 0
  · rw [jaIf1_t q]
    have := jvAg2_W h (jz s 0)
    exact ⟨this.1, this.2.1⟩
  · rw [jaIf1_f q]
    exact ⟨h, fun _ _ => rfl⟩
/-- what a tick keeps: the world, the checkpoint's neighbours, the sentence -/
def jKt (j : Nat) : Prop := j < 31 ∨ j = 32 ∨ 525 ≤ j
theorem jvTick_W {s d e : jvA} (h : jW s d e) (ht : jz s 31 < 3000) : jW (jvTick d (s, e)).1 d (jvTick d (s, e)).2 ∧ (∀ j, jKt j → (jvTick d (s, e)).1 j = s j) ∧ (∀ j, j < 9 * jz s 33 → (jvTick d (s, e)).2 j = e j) ∧ jz s 33 ≤ jz (jvTick d (s, e)).1 33 ∧ jz (jvTick d (s, e)).1 31 = jz s 31 + 1 := by
  have h10 := h.w.2.1.2
  obtain ⟨a, b⟩ := jvCgs_W h (jz s 2) h.w.2.2.1.2.2
  rw [jvTick_eq]
  generalize jvCgs d (s, e) (jz (s, e).1 2) = x at *
  obtain ⟨s1, e1⟩ := x
  simp only [] at a b ⊢
  have a2 := jvTn_W a
  have n2 : ∀ j, ¬ ((36 ≤ j ∧ j ≤ 40) ∨ (455 ≤ j ∧ j < 525)) → jvTn s1 j = s1 j := fun j hj => jvTn_ne a.w.2.1.2 a.k38 hj
  obtain ⟨a3, n3⟩ := jvT2_W a2
  generalize jvTn s1 = s2 at *
  generalize jvT2 s2 e1 = s3 at *
  have n4 : ∀ j, j ≠ 31 → jaPt s3 31 (s3 31 + nI 1) j = s3 j := fun j hj => jaPt_ne hj
  have e31 : s3 31 = s 31 := by rw [n3 31 (by omega), n2 31 (by omega), b.1 31 (Or.inl (by omega))]
  have z31 : jaPt s3 31 (s3 31 + nI 1) 31 = nI (jz s 31 + 1) := by rw [jaPt_eq, e31, h.t, nI_add]
  have zz31 : jz (jaPt s3 31 (s3 31 + nI 1)) 31 = jz s 31 + 1 := (congrArg jaIx z31).trans (jaIx_nI (by omega))
  refine ⟨⟨?_, ?_, ?_, ?_, ?_, ?_, ?_⟩, fun j hj => ?_, b.2.1, ?_, zz31⟩
  · exact jWw_c (fun j hj => n4 j (by omega)) a3.w
  · exact jWd_c (n4 1 (by omega)) (n4 32 (by omega)) a3.d
  · exact jWe_c (n4 1 (by omega)) (n4 32 (by omega)) (n4 33 (by omega)) a3.e
  · exact jWo_c (fun j hj => n4 j (by omega)) a3.o
  · exact jWc_c (fun j hj => n4 j (by omega)) a3.c
  · exact jWk_c (fun j hj => n4 j (by omega)) (fun _ => n4 39 (by omega)) a3.O a3.k
  · show jaPt s3 31 (s3 31 + nI 1) 31 = nI (jz (jaPt s3 31 (s3 31 + nI 1)) 31)
    rw [zz31]
    exact z31
  · unfold jKt at hj
    rw [n4 j (by omega), n3 j (by omega), n2 j (by omega), b.1 j (by unfold jKp; omega)]
  · rw [jz_c (n4 33 (by omega)), jz_c (n3 33 (by omega)), jz_c (n2 33 (by omega))]
    exact b.2.2
theorem jvTicks_W {s d e : jvA} (h : jW s d e) : ∀ n, jz s 31 + n < 3000 → jW (jvTicks d (s, e) n).1 d (jvTicks d (s, e) n).2 ∧ (∀ j, jKt j → (jvTicks d (s, e) n).1 j = s j) ∧ (∀ j, j < 9 * jz s 33 → (jvTicks d (s, e) n).2 j = e j) ∧ jz s 33 ≤ jz (jvTicks d (s, e) n).1 33 ∧ jz (jvTicks d (s, e) n).1 31 = jz s 31 + n
  | 0, _ => ⟨h, fun _ _ => rfl, fun _ _ => rfl, Nat.le_refl _, rfl⟩
  | n + 1, hn => by
    obtain ⟨a1, a2, a3, a4, a5⟩ := jvTicks_W h n (by omega)
    have hs : jvTicks d (s, e) (n + 1) = jvTick d (jvTicks d (s, e) n) := rfl
    rw [hs]
    generalize jvTicks d (s, e) n = x at *
    obtain ⟨s1, e1⟩ := x
    simp only [] at a1 a2 a3 a4 a5
    obtain ⟨b1, b2, b3, b4, b5⟩ := jvTick_W a1 (by omega)
    exact ⟨b1, fun j hj => (b2 j hj).trans (a2 j hj), fun j hj => (b3 j (by omega)).trans (a3 j hj), Nat.le_trans a4 b4, by omega⟩
end
