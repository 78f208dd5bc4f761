section
/-! a WORLD, read -/
theorem jtP_ge {X : jtX} : ∀ i, jtFi X (jtA X i) ∨ i ≤ jtP X i
  | 0 => Or.inr (Nat.zero_le _)
  | i + 1 => by
    by_cases q : jtFi X (jtA X i)
    · left
      have := jtA_st q 1
      rw [this]
      exact q
    · right
      have h1 := (jtP_ge (X := X) i).resolve_left q
      have h2 := (jtSk_s X (jtP X i)).1
      have h3 : jtA X i < X.2.1 := by
        unfold jtFi at q
        omega
      have h4 := (jtE_s h3).1
      rw [jtP_s, jaIf1_f q]
      have : jtSk X (jtP X i) = jtA X i := rfl
      omega
/-- a token that is one lies within -/
theorem jtK_in {X : jtX} {i : Nat} (h0 : jtK X i ≠ 0) (h1 : jtK X i ≠ 1) : i < X.2.1 := by
  unfold jtK at h0 h1
  by_cases q : jtFi X (jtA X i)
  · rw [jaIf1_t q] at h0 h1
    by_cases q2 : X.2.2 < X.2.1
    · rw [jaIf1_t q2] at h0; exact absurd rfl h0
    · rw [jaIf1_f q2] at h1; exact absurd rfl h1
  · have h2 := (jtP_ge (X := X) i).resolve_left q
    have h3 := (jtSk_s X (jtP X i)).1
    have : jtSk X (jtP X i) = jtA X i := rfl
    unfold jtFi at q
    omega
noncomputable def jwAll (X : jtX) : Nat → jwS → Nat → Nat → Sum jwF (jwS × Nat)
  | 0, w, n, _ => .inr (w, n)
  | m + 1, w, n, i => jaIf1 (jtK X i = 1) (.inr (w, n)) (jwB (jwLine X w i) fun y => jaIf1 (jtK X y.2 = 59) (jwAll X m y.1 (n + 1) (y.2 + 1)) (.inl (1, y.2)))
theorem jwB_r {A B : Type} {r : Sum jwF A} {f : A → Sum jwF B} {b : B} (h : jwB r f = .inr b) : ∃ a, r = .inr a ∧ f a = .inr b := by
  rcases r with x | a
  · cases h
  · exact ⟨a, rfl, h⟩
theorem jwNames {h : jvA} {nm : Nat → Nat} {h' : jvA} {slot w : Nat} (hw : w < 9223372036854775808) (hn : ∀ j, j < 16 → nm j < 9223372036854775808 ∧ (¬ jwU h j → nm j = 0)) (hs : slot < 16) (hU : ∀ j, jwU h' j ↔ jwU h j ∨ j = slot) : ∀ j, j < 16 → jnPt nm slot w j < 9223372036854775808 ∧ (¬ jwU h' j → jnPt nm slot w j = 0) := by
  intro j hj
  unfold jnPt
  by_cases q : j = slot
  · rw [if_pos q]
    exact ⟨hw, fun z => absurd ((hU j).mpr (Or.inr q)) z⟩
  · rw [if_neg q]
    exact ⟨(hn j hj).1, fun z => (hn j hj).2 (fun y => z ((hU j).mpr (Or.inl y)))⟩
theorem jwW_g {h h' : jvA} {nm nm' : Nat → Nat} {e l e' l' n0 n1 n2 : Nat} (hw : jwW (h, nm, e, l)) (z0 : h' 0 = nI n0) (b0 : jz h 0 ≤ n0) (c0 : n0 ≤ 3) (z1 : h' 1 = nI n1) (c1 : n1 ≤ 10) (z2 : h' 2 = nI n2) (c2 : n2 ≤ 3) (z3 : h' 3 = h 3 ∨ ∃ v, 1 ≤ v ∧ v ≤ 20 ∧ h' 3 = nI v) (z4 : h' 4 = h 4 ∨ ∃ v, v ≤ 9 ∧ h' 4 = nI v)
    (k : ∀ q, q < n1 → (h' (5 + q) = h (5 + q) ∧ q < jz h 1) ∨ ∃ r, r < n0 ∧ h' (5 + q) = nI r) (c : ∀ q, q < n2 → (h' (25 + q) = h (25 + q) ∧ h' (28 + q) = h (28 + q) ∧ q < jz h 2) ∨ ∃ v b, 1 ≤ v ∧ v ≤ 4 ∧ b ≤ 1 ∧ h' (25 + q) = nI v ∧ h' (28 + q) = nI b)
    (n : ∀ j, j < 16 → nm' j < 9223372036854775808 ∧ (¬ jwU h' j → nm' j = 0)) (he : e' ≤ 1) (hl : l' ≤ 1) : jwW (h', nm', e', l') := by
  obtain ⟨w0, w1, w2, w3, w4, w5, w6, w7, w8, w9⟩ := hw
  simp only [] at w0 w1 w2 w3 w4 w5 w6
  have y0 : jz h' 0 = n0 := by rw [jz, z0, jaIx_nI (by omega)]
  have y1 : jz h' 1 = n1 := by rw [jz, z1, jaIx_nI (by omega)]
  have y2 : jz h' 2 = n2 := by rw [jz, z2, jaIx_nI (by omega)]
  refine ⟨⟨?_, ?_⟩, ⟨?_, ?_⟩, ⟨?_, ?_⟩, ?_, ?_, fun q hq => ?_, fun q hq => ?_, n, he, hl⟩
  · show h' 0 = nI (jz h' 0); rw [y0, z0]
  · show jz h' 0 ≤ 3; omega
  · show h' 1 = nI (jz h' 1); rw [y1, z1]
  · show jz h' 1 ≤ 10; omega
  · show h' 2 = nI (jz h' 2); rw [y2, z2]
  · show jz h' 2 ≤ 3; omega
  · show h' 3 = nI (jz h' 3) ∧ 1 ≤ jz h' 3 ∧ jz h' 3 ≤ 20
    rcases z3 with z | ⟨v, v1, v2, z⟩
    · rw [jz_c z, z]; exact w3
    · rw [jz, z, jaIx_nI (by omega)]; exact ⟨rfl, v1, v2⟩
  · show h' 4 = nI (jz h' 4) ∧ jz h' 4 ≤ 9
    rcases z4 with z | ⟨v, v2, z⟩
    · rw [jz_c z, z]; exact w4
    · rw [jz, z, jaIx_nI (by omega)]; exact ⟨rfl, v2⟩
  · have hq : q < jz h' 1 := hq
    rw [y1] at hq
    show h' (5 + q) = nI (jz h' (5 + q)) ∧ jz h' (5 + q) < jz h' 0
    rw [y0]
    rcases k q hq with ⟨z, hq2⟩ | ⟨r, hr, z⟩
    · rw [jz_c z, z]
      have := w5 q hq2
      exact ⟨this.1, by omega⟩
    · rw [jz, z, jaIx_nI (by omega)]; exact ⟨rfl, hr⟩
  · have hq : q < jz h' 2 := hq
    rw [y2] at hq
    show h' (25 + q) = nI (jz h' (25 + q)) ∧ 1 ≤ jz h' (25 + q) ∧ jz h' (25 + q) ≤ 4 ∧ (h' (28 + q) = nI 0 ∨ h' (28 + q) = nI 1)
    rcases c q hq with ⟨z, z', hq2⟩ | ⟨v, b, v1, v2, hb, z, z'⟩
    · rw [jz_c z, z, z']; exact w6 q hq2
    · rw [jz, z, jaIx_nI (by omega), z']
      refine ⟨rfl, v1, v2, ?_⟩
      have : b = 0 ∨ b = 1 := by omega
      rcases this with y | y
      · rw [y]; exact Or.inl rfl
      · rw [y]; exact Or.inr rfl
theorem jwLine_W {X : jtX} (hX : ∀ q, X.1 q < 256) {w w' : jwS} {i i' : Nat} (hw : jwW w) (hl : jwLine X w i = .inr (w', i')) : jwW w' ∧ i < i' := by
  obtain ⟨h, nm, e, l⟩ := w
  have hw' := hw
  obtain ⟨w0, w1, w2, w3, w4, w5, w6, w7, w8, w9⟩ := hw'
  simp only [] at w0 w1 w2 w7 w8 w9
  have nmW : ∀ {nm' : Nat → Nat} {slot p : Nat}, jwNew X h nm slot p = .inr nm' → nm' = jnPt nm slot (jtW X p) ∧ jtW X p < 9223372036854775808 := fun e => by
    obtain ⟨a, b, c⟩ := jwNew_r e
    exact ⟨b, (jtW_k hX (jtTc_w.mpr (Or.inl a))).2⟩
  unfold jwLine at hl
  by_cases q1 : jtK X i = 105
  · rw [jaIf1_t q1] at hl
    unfold jwEp at hl
    by_cases q2 : e = 1
    · rw [jaIf1_t q2] at hl; cases hl
    · rw [jaIf1_f q2] at hl
      obtain ⟨v, e1, e2⟩ := jwB_r hl
      have hv := jwNum_r e1
      cases e2
      have ne : ∀ j, j ≠ 3 → jaPt h 3 (nI v) j = h j := fun j hj => jaPt_ne hj
      refine ⟨jwW_g hw ((ne 0 (by decide)).trans w0.1) (Nat.le_refl _) w0.2 ((ne 1 (by decide)).trans w1.1) w1.2 ((ne 2 (by decide)).trans w2.1) w2.2 (Or.inr ⟨v, hv.2.2.1, hv.2.2.2, jaPt_eq⟩) (Or.inl (ne 4 (by decide))) (fun q hq => Or.inl ⟨ne _ (by omega), hq⟩) (fun q hq => Or.inl ⟨ne _ (by omega), ne _ (by omega), hq⟩) (fun j hj => ⟨(w7 j hj).1, fun y => (w7 j hj).2 (fun u => y ?_)⟩) (by omega) w9, by omega⟩
      unfold jwU at u ⊢
      rw [jz_c (ne 0 (by decide)), jz_c (ne 1 (by decide)), jz_c (ne 2 (by decide))]; exact u
  · rw [jaIf1_f q1] at hl
    by_cases q2 : jtK X i = 106
    · rw [jaIf1_t q2] at hl
      unfold jwLi at hl
      by_cases q2 : l = 1
      · rw [jaIf1_t q2] at hl; cases hl
      · rw [jaIf1_f q2] at hl
        obtain ⟨v, e1, e2⟩ := jwB_r hl
        have hv := jwNum_r e1
        cases e2
        have ne : ∀ j, j ≠ 4 → jaPt h 4 (nI v) j = h j := fun j hj => jaPt_ne hj
        refine ⟨jwW_g hw ((ne 0 (by decide)).trans w0.1) (Nat.le_refl _) w0.2 ((ne 1 (by decide)).trans w1.1) w1.2 ((ne 2 (by decide)).trans w2.1) w2.2 (Or.inl (ne 3 (by decide))) (Or.inr ⟨v, hv.2.2.2, jaPt_eq⟩) (fun q hq => Or.inl ⟨ne _ (by omega), hq⟩) (fun q hq => Or.inl ⟨ne _ (by omega), ne _ (by omega), hq⟩) (fun j hj => ⟨(w7 j hj).1, fun y => (w7 j hj).2 (fun u => y ?_)⟩) w8 (by omega), by omega⟩
        unfold jwU at u ⊢
        rw [jz_c (ne 0 (by decide)), jz_c (ne 1 (by decide)), jz_c (ne 2 (by decide))]; exact u
    · rw [jaIf1_f q2] at hl
      by_cases q3 : jtK X i = 100
      · rw [jaIf1_t q3] at hl
        unfold jwSi at hl
        simp only [] at hl
        by_cases q4 : jz h 0 = 3
        · rw [jaIf1_t q4] at hl; cases hl
        · rw [jaIf1_f q4] at hl
          obtain ⟨nm', e1, e2⟩ := jwB_r hl
          obtain ⟨m1, m2⟩ := nmW e1
          cases e2
          have ne : ∀ j, j ≠ 0 → jaPt h 0 (nI (jz h 0 + 1)) j = h j := fun j hj => jaPt_ne hj
          refine ⟨jwW_g hw jaPt_eq (by omega) (by omega) ((ne 1 (by decide)).trans w1.1) w1.2 ((ne 2 (by decide)).trans w2.1) w2.2 (Or.inl (ne 3 (by decide))) (Or.inl (ne 4 (by decide))) (fun q hq => Or.inl ⟨ne _ (by omega), hq⟩) (fun q hq => Or.inl ⟨ne _ (by omega), ne _ (by omega), hq⟩) ?_ w8 w9, by omega⟩
          rw [m1]
          refine jwNames m2 w7 (by omega) (fun j => ?_)
          unfold jwU
          rw [jz_c (ne 1 (by decide)), jz_c (ne 2 (by decide)), show jz (jaPt h 0 (nI (jz h 0 + 1))) 0 = jz h 0 + 1 by rw [jz, jaPt_eq, jaIx_nI (by omega)]]
          omega
      · rw [jaIf1_f q3] at hl
        by_cases q4 : jtK X i = 101
        · rw [jaIf1_t q4] at hl
          unfold jwKe at hl
          simp only [] at hl
          by_cases q5 : jz h 1 = 10
          · rw [jaIf1_t q5] at hl; cases hl
          · rw [jaIf1_f q5] at hl
            obtain ⟨nm', e1, e2⟩ := jwB_r hl
            obtain ⟨m1, m2⟩ := nmW e1
            obtain ⟨r, e3, e4⟩ := jwB_r e2
            have hr := jwNam_r e3
            obtain ⟨v, e5, e6⟩ := jwB_r e4
            have hv := jwNum_r e5
            cases e6
            have hr0 : r < jz h 0 := hr.2.1
            have ne : ∀ j, j ≠ 1 → j ≠ 5 + jz h 1 → j ≠ 15 + jz h 1 → jaPt (jaPt (jaPt h (5 + jz h 1) (nI r)) (15 + jz h 1) (nI v)) 1 (nI (jz h 1 + 1)) j = h j := fun j x1 x2 x3 => by rw [jaPt_ne x1, jaPt_ne x3, jaPt_ne x2]
            have n5 : jaPt (jaPt (jaPt h (5 + jz h 1) (nI r)) (15 + jz h 1) (nI v)) 1 (nI (jz h 1 + 1)) (5 + jz h 1) = nI r := by rw [jaPt_ne (by omega), jaPt_ne (by omega), jaPt_eq]
            have n1 : jaPt (jaPt (jaPt h (5 + jz h 1) (nI r)) (15 + jz h 1) (nI v)) 1 (nI (jz h 1 + 1)) 1 = nI (jz h 1 + 1) := jaPt_eq
            generalize jaPt (jaPt (jaPt h (5 + jz h 1) (nI r)) (15 + jz h 1) (nI v)) 1 (nI (jz h 1 + 1)) = h' at *
            refine ⟨jwW_g hw ((ne 0 (by omega) (by omega) (by omega)).trans w0.1) (Nat.le_refl _) w0.2 n1 (by omega) ((ne 2 (by omega) (by omega) (by omega)).trans w2.1) w2.2 (Or.inl (ne 3 (by omega) (by omega) (by omega))) (Or.inl (ne 4 (by omega) (by omega) (by omega))) (fun q hq => ?_) (fun q hq => Or.inl ⟨ne _ (by omega) (by omega) (by omega), ne _ (by omega) (by omega) (by omega), hq⟩) ?_ w8 w9, by omega⟩
            · by_cases y : q = jz h 1
              · rw [y]
                exact Or.inr ⟨r, hr0, n5⟩
              · exact Or.inl ⟨ne _ (by omega) (by omega) (by omega), by omega⟩
            · rw [m1]
              refine jwNames m2 w7 (by omega) (fun j => ?_)
              unfold jwU
              rw [jz_c (ne 0 (by omega) (by omega) (by omega)), jz_c (ne 2 (by omega) (by omega) (by omega)), show jz h' 1 = jz h 1 + 1 by rw [jz, n1, jaIx_nI (by omega)]]
              omega
        · rw [jaIf1_f q4] at hl
          by_cases q5 : jtK X i = 102
          · rw [jaIf1_t q5] at hl
            unfold jwCo at hl
            simp only [] at hl
            by_cases q6 : jz h 2 = 3
            · rw [jaIf1_t q6] at hl; cases hl
            · rw [jaIf1_f q6] at hl
              obtain ⟨nm', e1, e2⟩ := jwB_r hl
              obtain ⟨m1, m2⟩ := nmW e1
              obtain ⟨v, e3, e4⟩ := jwB_r e2
              have hv := jwNum_r e3
              by_cases q7 : jtK X (i + 3) = 104 ∨ jtK X (i + 3) = 103
              · rw [jaIf1_t q7] at e4
                cases e4
                have hb := jaBn_le (p := jtK X (i + 3) = 104)
                generalize jaBn (jtK X (i + 3) = 104) = b at *
                have ne : ∀ j, j ≠ 2 → j ≠ 25 + jz h 2 → j ≠ 28 + jz h 2 → jaPt (jaPt (jaPt h (25 + jz h 2) (nI v)) (28 + jz h 2) (nI b)) 2 (nI (jz h 2 + 1)) j = h j := fun j x1 x2 x3 => by rw [jaPt_ne x1, jaPt_ne x3, jaPt_ne x2]
                have n5 : jaPt (jaPt (jaPt h (25 + jz h 2) (nI v)) (28 + jz h 2) (nI b)) 2 (nI (jz h 2 + 1)) (25 + jz h 2) = nI v := by rw [jaPt_ne (by omega), jaPt_ne (by omega), jaPt_eq]
                have n6 : jaPt (jaPt (jaPt h (25 + jz h 2) (nI v)) (28 + jz h 2) (nI b)) 2 (nI (jz h 2 + 1)) (28 + jz h 2) = nI b := by rw [jaPt_ne (by omega), jaPt_eq]
                have n1 : jaPt (jaPt (jaPt h (25 + jz h 2) (nI v)) (28 + jz h 2) (nI b)) 2 (nI (jz h 2 + 1)) 2 = nI (jz h 2 + 1) := jaPt_eq
                generalize jaPt (jaPt (jaPt h (25 + jz h 2) (nI v)) (28 + jz h 2) (nI b)) 2 (nI (jz h 2 + 1)) = h' at *
                refine ⟨jwW_g hw ((ne 0 (by omega) (by omega) (by omega)).trans w0.1) (Nat.le_refl _) w0.2 ((ne 1 (by omega) (by omega) (by omega)).trans w1.1) w1.2 n1 (by omega) (Or.inl (ne 3 (by omega) (by omega) (by omega))) (Or.inl (ne 4 (by omega) (by omega) (by omega))) (fun q hq => Or.inl ⟨ne _ (by omega) (by omega) (by omega), hq⟩) (fun q hq => ?_) ?_ w8 w9, by omega⟩
                · by_cases y : q = jz h 2
                  · rw [y]
                    exact Or.inr ⟨v, b, hv.2.2.1, hv.2.2.2, hb, n5, n6⟩
                  · exact Or.inl ⟨ne _ (by omega) (by omega) (by omega), ne _ (by omega) (by omega) (by omega), by omega⟩
                · rw [m1]
                  refine jwNames m2 w7 (by omega) (fun j => ?_)
                  unfold jwU
                  rw [jz_c (ne 0 (by omega) (by omega) (by omega)), jz_c (ne 1 (by omega) (by omega) (by omega)), show jz h' 2 = jz h 2 + 1 by rw [jz, n1, jaIx_nI (by omega)]]
                  omega
              · rw [jaIf1_f q7] at e4
                cases e4
          · rw [jaIf1_f q5] at hl
            cases hl
end
