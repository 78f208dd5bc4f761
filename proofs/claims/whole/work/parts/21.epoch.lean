section
/-! checks: what stays well -/
theorem jvCe1_at {s : jvA} {j : Nat} : ∀ n, jvCe1 s n j = jaIf1 ((455 ≤ j ∧ j < 455 + n) ∨ (465 ≤ j ∧ j < 465 + n)) (nI 0) (s j)
  | 0 => (jaIf1_f (by omega)).symm
  | n + 1 => by
    show jaPt (jaPt (jvCe1 s n) (455 + n) (nI 0)) (465 + n) (nI 0) j = _
    by_cases h1 : j = 465 + n
    · rw [h1, jaPt_eq, jaIf1_t (by omega)]
    · rw [jaPt_ne h1]
      by_cases h2 : j = 455 + n
      · rw [h2, jaPt_eq, jaIf1_t (by omega)]
      · rw [jaPt_ne h2, jvCe1_at n]
        by_cases h3 : (455 ≤ j ∧ j < 455 + n) ∨ (465 ≤ j ∧ j < 465 + n)
        · rw [jaIf1_t h3, jaIf1_t (by omega)]
        · rw [jaIf1_f h3, jaIf1_f (by omega)]
theorem jvCe_ne {s : jvA} {j : Nat} (h : ¬ ((36 ≤ j ∧ j ≤ 39) ∨ (455 ≤ j ∧ j < 475))) : jvCe s j = s j := by
  unfold jvCe
  rw [jvCe1_at, jaIf1_f (by omega), jaPt_ne (by omega), jaPt_ne (by omega), jaPt_ne (by omega), jaPt_ne (by omega)]
theorem jvCe_in {s : jvA} {j : Nat} (h : (36 ≤ j ∧ j ≤ 39) ∨ (455 ≤ j ∧ j < 475)) : jvCe s j = nI 0 := by
  unfold jvCe
  rw [jvCe1_at]
  by_cases h1 : 455 ≤ j
  · rw [jaIf1_t (by omega)]
  · rw [jaIf1_f (by omega)]
    rcases (show j = 36 ∨ j = 37 ∨ j = 38 ∨ j = 39 by omega) with h2 | h2 | h2 | h2 <;> subst h2
    · rw [jaPt_ne (by decide), jaPt_ne (by decide), jaPt_ne (by decide), jaPt_eq]
    · rw [jaPt_ne (by decide), jaPt_ne (by decide), jaPt_eq]
    · rw [jaPt_ne (by decide), jaPt_eq]
    · rw [jaPt_eq]
theorem jvSa1_at {s : jvA} {j : Nat} : ∀ n, n ≤ 10 → jvSa1 s n j = jaIf1 (475 ≤ j ∧ j < 475 + n) (s (j - 10)) (s j)
  | 0, _ => (jaIf1_f (by omega)).symm
  | n + 1, hn => by
    show jaPt (jvSa1 s n) (475 + n) (jvSa1 s n (465 + n)) j = _
    by_cases h1 : j = 475 + n
    · rw [h1, jaPt_eq, jaIf1_t (by omega), jvSa1_at n (by omega), jaIf1_f (by omega), show 475 + n - 10 = 465 + n by omega]
    · rw [jaPt_ne h1, jvSa1_at n (by omega)]
      by_cases h3 : 475 ≤ j ∧ j < 475 + n
      · rw [jaIf1_t h3, jaIf1_t (by omega)]
      · rw [jaIf1_f h3, jaIf1_f (by omega)]
theorem jvSa2_at {s : jvA} {j : Nat} : ∀ n, n ≤ 40 → jvSa2 s n j = jaIf1 (485 ≤ j ∧ j < 485 + n) (jaIf1 (s 37 ≤ nI (j - 485)) (nI 0) (s (175 + (j - 485)))) (s j)
  | 0, _ => (jaIf1_f (by omega)).symm
  | n + 1, hn => by
    have e37 : jvSa2 s n 37 = s 37 := by rw [jvSa2_at n (by omega), jaIf1_f (by omega)]
    have e175 : jvSa2 s n (175 + n) = s (175 + n) := by rw [jvSa2_at n (by omega), jaIf1_f (by omega)]
    show jaPt (jvSa2 s n) (485 + n) (jaIf1 (jvSa2 s n 37 ≤ nI n) (nI 0) (jvSa2 s n (175 + n))) j = _
    rw [e37, e175]
    by_cases h1 : j = 485 + n
    · rw [h1, jaPt_eq, jaIf1_t (show 485 ≤ 485 + n ∧ 485 + n < 485 + (n + 1) by omega), show 485 + n - 485 = n by omega]
    · rw [jaPt_ne h1, jvSa2_at n (by omega)]
      by_cases h3 : 485 ≤ j ∧ j < 485 + n
      · rw [jaIf1_t h3, jaIf1_t (show 485 ≤ j ∧ j < 485 + (n + 1) by omega)]
      · rw [jaIf1_f h3, jaIf1_f (show ¬ (485 ≤ j ∧ j < 485 + (n + 1)) by omega)]
theorem jvSa_ne {s : jvA} {j : Nat} (h10 : jz s 1 ≤ 10) (h : ¬ ((36 ≤ j ∧ j ≤ 40) ∨ (455 ≤ j ∧ j < 525))) : jvSa s j = s j := by
  unfold jvSa
  rw [jvCe_ne (by omega), jvSa2_at _ (Nat.le_refl _), jaIf1_f (by omega), jvSa1_at _ h10, jaIf1_f (by omega), jaPt_ne (by omega)]
theorem jvSa_in {s : jvA} {j : Nat} (h : (36 ≤ j ∧ j ≤ 39) ∨ (455 ≤ j ∧ j < 475)) : jvSa s j = nI 0 := jvCe_in h
theorem jvSa_40 {s : jvA} (h10 : jz s 1 ≤ 10) : jvSa s 40 = s 37 := by
  unfold jvSa
  rw [jvCe_ne (by omega), jvSa2_at _ (Nat.le_refl _), jaIf1_f (by omega), jvSa1_at _ h10, jaIf1_f (by omega), jaPt_eq]
theorem jvSa_v {s : jvA} {k : Nat} (h10 : jz s 1 ≤ 10) (hk : k < 10) : jvSa s (475 + k) = jaIf1 (k < jz s 1) (s (465 + k)) (s (475 + k)) := by
  unfold jvSa
  rw [jvCe_ne (by omega), jvSa2_at _ (Nat.le_refl _), jaIf1_f (by omega), jvSa1_at _ h10]
  by_cases h : k < jz s 1
  · rw [jaIf1_t (by omega), jaIf1_t h, jaPt_ne (by omega), show 475 + k - 10 = 465 + k by omega]
  · rw [jaIf1_f (by omega), jaIf1_f h, jaPt_ne (by omega)]
theorem jvSa_h {s : jvA} {i : Nat} (h10 : jz s 1 ≤ 10) (hi : i < 40) : jvSa s (485 + i) = jaIf1 (s 37 ≤ nI i) (nI 0) (s (175 + i)) := by
  unfold jvSa
  rw [jvCe_ne (by omega), jvSa2_at _ (Nat.le_refl _), jaIf1_t (show 485 ≤ 485 + i ∧ 485 + i < 485 + 40 by omega), show 485 + i - 485 = i by omega]
  congr 1
  · rw [jvSa1_at _ h10, jaIf1_f (by omega), jaPt_ne (by omega)]
  · rw [jvSa1_at _ h10, jaIf1_f (by omega), jaPt_ne (by omega)]
theorem jWc_c {s s' : jvA} (h : ∀ j, (175 ≤ j ∧ j < 415) ∨ j = 34 → s' j = s j) (hc : jWc s) : jWc s' := fun c i hc' hi => jWc1_c (h _ (by omega)) (h _ (by omega)) (h _ (by omega)) (hc c i hc' hi)
theorem jvSa_W {s d e : jvA} (hX : jX s d e) (hc : jWc s) (ht : s 31 = nI (jz s 31)) (h37 : s 37 = nI (jz s 37)) (hle : jz s 37 ≤ jz s 34) (ho : jvAo s 0 (jz s 37)) : jW (jvSa s) d e := by
  have h10 := hX.1.2.1.2
  have hO := hX.2.2.2.ord.2
  obtain ⟨a1, a2, a3, a4⟩ := jX_c (s' := jvSa s) (fun j hj => jvSa_ne h10 (by omega)) hX
  refine ⟨a1, a2, a3, a4, jWc_c (fun j hj => jvSa_ne h10 (by omega)) hc, ⟨Or.inl ⟨jvSa_in (by omega), jvSa_in (by omega), jvSa_in (by omega), jvSa_in (by omega)⟩, ?_, fun i hi => ?_⟩, ?_⟩
  · rw [jz_c (s := s) (s' := jvSa s) (j := 34) (jvSa_ne h10 (by omega)), jz, jvSa_40 h10]
    exact ⟨h37, hle⟩
  · rw [jz, jvSa_40 h10] at hi
    have hi : i < jz s 37 := hi
    have hi40 : i < 40 := by omega
    have e1 : jvSa s (485 + i) = s (175 + i) := by rw [jvSa_h h10 hi40, jaIf1_f (by rw [h37]; exact nI_ge hi (by omega))]
    rw [jz, e1]
    have hb := (hc 0 i (by decide) hi40).1
    have ho := ho i hi
    unfold jvOv at ho
    simp only [Nat.mul_zero, Nat.add_zero] at hb ho
    rw [hb.1, nI_le' (by omega) (by decide)] at ho
    exact ⟨hb.1, by show 2 ≤ jz s (175 + i); omega, hb.2⟩
  · show jvSa s 31 = nI (jz (jvSa s) 31)
    rw [jz_c (s := s) (s' := jvSa s) (j := 31) (jvSa_ne h10 (by omega)), jvSa_ne h10 (by omega)]
    exact ht
theorem jvSa_kp {s e : jvA} (h10 : jz s 1 ≤ 10) {j : Nat} (hj : j < 36 ∨ (41 ≤ j ∧ j < 455) ∨ 525 ≤ j) : jvSa s j = s j := jvSa_ne h10 (by omega)
theorem jW.nok {s d e : jvA} (h : jW s d e) (h0 : jz s 1 = 0) : jz s 34 = 0 ∧ jz s 35 = 0 ∧ jz s 32 = 0 := by
  have hm : jz s 32 = 0 := by
    rcases Nat.eq_zero_or_pos (jz s 32) with q | q
    · exact q
    · have := (h.d 0 q).1
      omega
  have hp : jz s 33 = 0 := by
    rcases Nat.eq_zero_or_pos (jz s 33) with q | q
    · exact q
    · have := (h.e 0 q).1.2
      omega
  have := h.o.2.2.2.2.1
  omega
theorem jvCh_W {s d e : jvA} (h : jW s d e) (h36 : s 36 = nI 0) : jW (jvCh s) d e := by
  have h10 := h.w.2.1.2
  have hO := h.O
  have ne : ∀ j, j ≠ 36 → j ≠ 37 → jaPt (jaPt s 36 (nI 1)) 37 (s 34) j = s j := fun j h1 h2 => by rw [jaPt_ne h2, jaPt_ne h1]
  have e36 : jaPt (jaPt s 36 (nI 1)) 37 (s 34) 36 = nI 1 := by rw [jaPt_ne (by decide), jaPt_eq]
  have e37 : jaPt (jaPt s 36 (nI 1)) 37 (s 34) 37 = s 34 := jaPt_eq
  have hk38 : s 38 = nI 0 := by
    rcases h.k.1 with q | q
    · exact q.2.2.1
    · rw [h36] at q
      exact absurd q.1 (by decide)
  unfold jvCh
  have hX : jX (jaPt (jaPt s 36 (nI 1)) 37 (s 34)) d e := jX_c (fun j hj => ne j (by omega) (by omega)) h.X
  have hc : jWc (jaPt (jaPt s 36 (nI 1)) 37 (s 34)) := jWc_c (fun j hj => ne j (by omega) (by omega)) h.c
  have ht : jaPt (jaPt s 36 (nI 1)) 37 (s 34) 31 = nI (jz (jaPt (jaPt s 36 (nI 1)) 37 (s 34)) 31) := by
    rw [jz_c (ne 31 (by omega) (by omega)), ne 31 (by omega) (by omega)]
    exact h.t
  have z37 : jz (jaPt (jaPt s 36 (nI 1)) 37 (s 34)) 37 = jz s 34 := congrArg jaIx e37
  by_cases q : s 1 = 0
  · rw [jaIf1_t q]
    have h0 : jz s 1 = 0 := by
      rw [jz, q]
      decide
    refine jvSa_W hX hc ht ?_ ?_ ?_
    · rw [z37, e37]
      exact h.o.ord.1
    · rw [z37, jz_c (ne 34 (by omega) (by omega))]
      exact Nat.le_refl _
    · rw [z37, (h.nok h0).1]
      exact fun i hi => absurd hi (by omega)
  · rw [jaIf1_f q]
    refine ⟨hX.1, hX.2.1, hX.2.2.1, hX.2.2.2, hc, ⟨Or.inr ⟨e36, ?_, ?_, ?_, ?_⟩, ?_, ?_⟩, ht⟩
    · rw [z37, e37]
      exact h.o.ord.1
    · rw [z37, jz_c (ne 34 (by omega) (by omega))]
      exact Nat.le_refl _
    · rw [jz_c (ne 38 (by omega) (by omega)), ne 38 (by omega) (by omega), jz, hk38]
      decide
    · rw [jz_c (ne 38 (by omega) (by omega)), jz_c (ne 1 (by omega) (by omega))]
      have z : jz s 38 = 0 := by rw [jz, hk38]; decide
      rw [h.w.2.1.1, nI_z (by omega)] at q
      omega
    · rw [jz_c (ne 34 (by omega) (by omega)), jz_c (ne 40 (by omega) (by omega)), ne 40 (by omega) (by omega)]
      exact h.k.2.1
    · intro i hi
      rw [jz_c (ne 40 (by omega) (by omega))] at hi
      rw [jz_c (ne (485 + i) (by omega) (by omega)), ne (485 + i) (by omega) (by omega)]
      exact h.k.2.2 i hi
theorem jvTn_W {s d e : jvA} (h : jW s d e) : jW (jvTn s) d e := by
  have h10 := h.w.2.1.2
  have hO := h.O
  unfold jvTn
  by_cases q : s 36 = 0 ∨ ¬ jvAo s 0 (jz s 37)
  · simp only []
    rw [jaIf1_t q]
    exact h
  · simp only []
    rw [jaIf1_f q]
    have q1 : ¬ s 36 = 0 := fun x => q (Or.inl x)
    have q2 : jvAo s 0 (jz s 37) := Classical.byContradiction fun x => q (Or.inr x)
    obtain ⟨k1, k2, k3, k4, k5⟩ : s 36 = nI 1 ∧ s 37 = nI (jz s 37) ∧ jz s 37 ≤ jz s 34 ∧ s 38 = nI (jz s 38) ∧ jz s 38 < jz s 1 := by
      rcases h.k.1 with z | z
      · exact absurd (z.1.trans nI_0) q1
      · exact z
    generalize hv : jaIf1 (jaBt (s 39) (jz s 38)) (s (455 + jz s 38)) (s (145 + jz s 38)) = v
    have ne : ∀ j, j ≠ 465 + jz s 38 → j ≠ 38 → jaPt (jaPt s (465 + jz s 38) v) 38 (s 38 + nI 1) j = s j := fun j h1 h2 => by rw [jaPt_ne h2, jaPt_ne h1]
    have hX : jX (jaPt (jaPt s (465 + jz s 38) v) 38 (s 38 + nI 1)) d e := jX_c (fun j hj => ne j (by omega) (by omega)) h.X
    have hc : jWc (jaPt (jaPt s (465 + jz s 38) v) 38 (s 38 + nI 1)) := jWc_c (fun j hj => ne j (by omega) (by omega)) h.c
    have ht : jaPt (jaPt s (465 + jz s 38) v) 38 (s 38 + nI 1) 31 = nI (jz (jaPt (jaPt s (465 + jz s 38) v) 38 (s 38 + nI 1)) 31) := by
      rw [jz_c (ne 31 (by omega) (by omega)), ne 31 (by omega) (by omega)]
      exact h.t
    have e38 : jaPt (jaPt s (465 + jz s 38) v) 38 (s 38 + nI 1) 38 = nI (jz s 38 + 1) := by rw [jaPt_eq, k4, nI_add]
    have z38 : jz (jaPt (jaPt s (465 + jz s 38) v) 38 (s 38 + nI 1)) 38 = jz s 38 + 1 := (congrArg jaIx e38).trans (jaIx_nI (by omega))
    by_cases q3 : s 38 + nI 1 = s 1
    · rw [jaIf1_t q3]
      refine jvSa_W hX hc ht ?_ ?_ ?_
      · rw [jz_c (ne 37 (by omega) (by omega)), ne 37 (by omega) (by omega)]; exact k2
      · rw [jz_c (ne 37 (by omega) (by omega)), jz_c (ne 34 (by omega) (by omega))]; exact k3
      · rw [jz_c (ne 37 (by omega) (by omega))]
        intro i hi
        have := q2 i hi
        unfold jvOv at this ⊢
        rw [ne _ (by omega) (by omega)]
        exact this
    · rw [jaIf1_f q3]
      refine ⟨hX.1, hX.2.1, hX.2.2.1, hX.2.2.2, hc, ⟨Or.inr ⟨?_, ?_, ?_, ?_, ?_⟩, ?_, ?_⟩, ht⟩
      · rw [ne 36 (by omega) (by omega)]; exact k1
      · rw [jz_c (ne 37 (by omega) (by omega)), ne 37 (by omega) (by omega)]; exact k2
      · rw [jz_c (ne 37 (by omega) (by omega)), jz_c (ne 34 (by omega) (by omega))]; exact k3
      · rw [z38]; exact e38
      · rw [z38, jz_c (ne 1 (by omega) (by omega))]
        rw [k4, h.w.2.1.1, nI_add, nI_eq' (by omega) (by omega)] at q3
        omega
      · rw [jz_c (ne 34 (by omega) (by omega)), jz_c (ne 40 (by omega) (by omega)), ne 40 (by omega) (by omega)]
        exact h.k.2.1
      · intro i hi
        rw [jz_c (ne 40 (by omega) (by omega))] at hi
        rw [jz_c (ne (485 + i) (by omega) (by omega)), ne (485 + i) (by omega) (by omega)]
        exact h.k.2.2 i hi
end
