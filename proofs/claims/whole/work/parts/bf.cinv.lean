section
/-! the start: what holds between the calls -/
def jkZc (c : jkC) : Bool := c.2.2.all fun q => decide (jkIf q.2 = 0) && decide (jkLf q.2 = 0)
theorem jkI_0 : ∀ (os : List (Nat × jaV)) (j : Nat), (os.all fun q => decide (jkIf q.2 = 0) && decide (jkLf q.2 = 0)) = true → jkI os j = 0 ∧ jkL os j = 0
  | [], _, _ => ⟨rfl, rfl⟩
  | (k, v) :: os, j, h => by
    rw [List.all_cons, Bool.and_eq_true, Bool.and_eq_true] at h
    have ih := jkI_0 os j h.2
    rw [jkI, jkL, ih.1, ih.2, of_decide_eq_true h.1.1, of_decide_eq_true h.1.2]
    exact ⟨ite_self _, ite_self _⟩
theorem jkZc_ok {c : jkC} (h : jkZc c = true) (j : Nat) : jkIv c j = 0 ∧ jkLv c j = 0 := by
  unfold jkIv jkLv
  by_cases z : c.1 < 100
  · rw [if_pos z, if_pos z, List.getD_eq_getElem?_getD]
    cases hg : c.2.2[j]? with
    | none => exact ⟨rfl, rfl⟩
    | some q =>
      have := List.all_eq_true.mp h q (List.mem_of_getElem? hg)
      rw [Bool.and_eq_true] at this
      exact ⟨of_decide_eq_true this.1, of_decide_eq_true this.2⟩
  · rw [if_neg z, if_neg z]
    exact jkI_0 _ j h
def jkSx : List Nat := [30, 33, 16, 70, 72, 73, 79]
def jkZa : Bool := jaRefs.all fun r => jkZc (jkCl r) || jkSx.any (Nat.beq r.1)
set_option maxRecDepth 100000 in
theorem jkZa_ok : jkZa = true := by decide +kernel
theorem jk0_z {S21 : jaS} {o k c : Nat} (hk : k ≠ 21) (hr : (o, k, c) ∈ jaRefs) (hs : jkSx.any (Nat.beq o) = false) (j : Nat) : (jk0 S21 k).1 o c j = 0 ∧ (jk0 S21 k).2 o c j = 0 := by
  rw [jk0_k hk]
  have h := List.all_eq_true.mp (show (jaRefs.all fun r => jkZc (jkCl r) || jkSx.any (Nat.beq r.1)) = true from jkZa_ok) (o, k, c) hr
  rw [show jkSx.any (Nat.beq (o, k, c).1) = false from hs, Bool.or_false] at h
  exact jkZc_ok h j
theorem jk0_v {S21 : jaS} {o k c j : Nat} (hk : k ≠ 21) : (jk0 S21 k).1 o c j = jkIv (jkCl (o, k, c)) j := by rw [jk0_k hk]
set_option maxRecDepth 100000 in
theorem jkS_lo : ∀ j, j < 31 → j ≠ 2 → j ≠ 3 → j ≠ 4 → j ≠ 25 → jkIv (jkCl (72, 20, 0)) j = 0 := by decide +kernel
set_option maxRecDepth 100000 in
theorem jkS_at : jkIv (jkCl (72, 20, 0)) 2 = nI 1 ∧ jkIv (jkCl (72, 20, 0)) 3 = nI 5 ∧ jkIv (jkCl (72, 20, 0)) 4 = nI 2 ∧ jkIv (jkCl (72, 20, 0)) 25 = nI 1 := by decide +kernel
set_option maxRecDepth 100000 in
theorem jkS_ky : (Nat.beq (jkCl (72, 20, 0)).1 100 && (jkCl (72, 20, 0)).2.2.all fun q => Nat.blt q.1 31) = true := by decide +kernel
theorem jkI_no : ∀ (os : List (Nat × jaV)) (j : Nat), (os.all fun q => Nat.blt q.1 31) = true → 31 ≤ j → jkI os j = 0
  | [], _, _, _ => rfl
  | (k, v) :: os, j, h, hj => by
    rw [List.all_cons, Bool.and_eq_true] at h
    have hk : k < 31 := Nat.le_of_ble_eq_true h.1
    rw [jkI, if_neg (by omega), jkI_no os j h.2 hj]
theorem jkS_hi {j : Nat} (hj : 31 ≤ j) : jkIv (jkCl (72, 20, 0)) j = 0 := by
  have h := jkS_ky
  rw [Bool.and_eq_true] at h
  unfold jkIv
  rw [if_neg (by rw [Nat.eq_of_beq_eq_true h.1]; decide)]
  exact jkI_no _ j h.2 hj
/-- the reference's rows at the start are those behind a WORLD of no LINE -/
theorem jkS_w {S21 : jaS} : (jk0 S21 20).1 72 0 = jvW0 ((jk0 S21 20).1 72 0) (jwUn jwNo.1) := by
  have no : ∀ j, j ≠ 3 → j ≠ 4 → jwNo.1 j = nI 0 := fun j a b => (jaIf1_f a).trans (jaIf1_f b)
  have n3 : jwNo.1 3 = nI 5 := jaIf1_t rfl
  have n4 : jwNo.1 4 = nI 2 := (jaIf1_f (by decide)).trans (jaIf1_t rfl)
  have nz : jz jwNo.1 2 = 0 := by rw [jz, no 2 (by decide) (by decide), jaIx_nI (by omega)]
  have hu : jwUn jwNo.1 = jaPt (jaPt jwNo.1 2 (nI 1)) 25 (nI 1) := by
    unfold jwUn
    rw [jaIf1_t nz]
  have h15 : ∀ q, q < 10 → jwUn jwNo.1 (15 + q) = nI 0 := fun q hq => by
    rw [hu, jaPt_ne (by omega), jaPt_ne (by omega), no _ (by omega) (by omega)]
  funext j
  have e : (jk0 S21 20).1 72 0 j = jkIv (jkCl (72, 20, 0)) j := jk0_v (by decide)
  by_cases h1 : j < 31
  · rw [jvW0_a h1, hu, e]
    by_cases q25 : j = 25
    · rw [q25, jaPt_eq]; exact jkS_at.2.2.2
    · rw [jaPt_ne q25]
      by_cases q2 : j = 2
      · rw [q2, jaPt_eq]; exact jkS_at.1
      · rw [jaPt_ne q2]
        by_cases q3 : j = 3
        · rw [q3, n3]; exact jkS_at.2.1
        · by_cases q4 : j = 4
          · rw [q4, n4]; exact jkS_at.2.2.1
          · rw [no j q3 q4]
            exact jkS_lo j h1 q2 q3 q4 q25
  · have e0 : (jk0 S21 20).1 72 0 j = nI 0 := e.trans (jkS_hi (by omega))
    by_cases h2 : 145 ≤ j ∧ j < 175
    · rw [e0, show j = 145 + 10 * ((j - 145) / 10) + (j - 145) % 10 by omega, jvW0_b (by omega) (by omega), h15 _ (by omega)]
    · by_cases h3 : 475 ≤ j ∧ j < 485
      · rw [e0, show j = 475 + (j - 475) by omega, jvW0_d (by omega), h15 _ (by omega)]
      · by_cases h4 : j < 706
        · rw [e0, jvW0_0 (by omega)]
        · unfold jvW0
          rw [jaIf1_f (by omega), jaIf1_f (by omega), jaIf1_f (by omega), jaIf1_f (by omega)]
end
section
set_option maxRecDepth 100000 in
theorem jkW_30 : jkIv (jkCl (30, 1, 0)) 0 = nI 0 ∧ jkIv (jkCl (30, 1, 0)) 1 = nI 0 ∧ jkIv (jkCl (30, 1, 0)) 2 = nI 1 ∧ jkIv (jkCl (30, 1, 0)) 3 = nI 5 ∧ jkIv (jkCl (30, 1, 0)) 4 = nI 2 ∧ jkIv (jkCl (33, 1, 0)) 0 = nI 1 := by decide +kernel
set_option maxRecDepth 100000 in
theorem jkW_70 : jkIv (jkCl (70, 20, 0)) 2 = nI 0 ∧ jkIv (jkCl (70, 20, 0)) 18 = nI 0 ∧ jkIv (jkCl (70, 20, 0)) 33 = nI 0 ∧ jkIv (jkCl (70, 20, 0)) 37 = -1 ∧ jkIv (jkCl (70, 20, 0)) 39 = nI 0 ∧ jkIv (jkCl (70, 20, 0)) 43 = nI 0 := by decide +kernel
set_option maxRecDepth 100000 in
theorem jkW_16 : jkIv (jkCl (16, 0, 0)) 0 = nI 0 ∧ jkIv (jkCl (16, 0, 0)) 2 = -1 := by decide +kernel
/-- the reference's reserved words in its order -/
def jkRw : List Nat := [1936290917, 7038329, 1668247673, 435678045032, 1818848875, 439855772532, 1818325876, 24948, 1852138852, 7370100, 426953237355, 427120751464, 1953063787, 28530, 6385252, 7237492, 33602627781095015, 444250812007, 1685024357, 32199698155136356, 32497644298331492, 491327153273, 2003395685, 491327153267, 131333279212915, 1718775661, 482854658917, 500135716211, 500135194227]
set_option maxRecDepth 100000 in
theorem jkW_79 : ∀ j, j < 29 → jkLv (jkCl (79, 20, 0)) j = Int64.ofNat (jaN 0 jkRw j) := by decide +kernel
theorem jkRw_1 : ∀ j, j < 29 → jaN 0 jkRw j ∈ jtWs ∧ jaN 0 jkRw j < 9223372036854775808 := by decide +kernel
theorem jkRw_2 : ∀ w, w ∈ jtWs → ∃ j, j < 29 ∧ jaN 0 jkRw j = w := by decide +kernel
set_option maxRecDepth 100000 in
theorem jk0_R {S21 : jaS} {d e : jvA} : jR (jk0 S21 1) ((jk0 S21 20).1 72 0, d, e) := by
  have hs := jkS_w (S21 := S21)
  generalize (jk0 S21 20).1 72 0 = s at *
  have hwu := jwUn_W jwNo_W.1 jwNo_W.2
  have Z : ∀ {j}, (31 ≤ j ∧ j < 145) ∨ (175 ≤ j ∧ j < 475) ∨ (485 ≤ j ∧ j < 706) → s j = nI 0 := fun h => by
    rw [hs]
    exact jvW0_0 h
  have z : ∀ {j}, (31 ≤ j ∧ j < 145) ∨ (175 ≤ j ∧ j < 475) ∨ (485 ≤ j ∧ j < 706) → jz s j = 0 := fun h => by rw [jz, Z h, jaIx_nI (by omega)]
  have no : ∀ j, j ≠ 3 → j ≠ 4 → jwNo.1 j = nI 0 := fun j a b => (jaIf1_f a).trans (jaIf1_f b)
  have nz : jz jwNo.1 2 = 0 := by rw [jz, no 2 (by decide) (by decide), jaIx_nI (by omega)]
  have hu : jwUn jwNo.1 = jaPt (jaPt jwNo.1 2 (nI 1)) 25 (nI 1) := by
    unfold jwUn
    rw [jaIf1_t nz]
  have L : ∀ {j}, j < 31 → s j = jaPt (jaPt jwNo.1 2 (nI 1)) 25 (nI 1) j := fun h => by
    rw [hs, jvW0_a h, hu]
  have s0 : s 0 = nI 0 := by rw [L (by decide), jaPt_ne (by decide), jaPt_ne (by decide), no 0 (by decide) (by decide)]
  have s1 : s 1 = nI 0 := by rw [L (by decide), jaPt_ne (by decide), jaPt_ne (by decide), no 1 (by decide) (by decide)]
  have s2 : s 2 = nI 1 := by rw [L (by decide), jaPt_ne (by decide), jaPt_eq]
  have s3 : s 3 = nI 5 := by rw [L (by decide), jaPt_ne (by decide), jaPt_ne (by decide)]; exact jaIf1_t rfl
  have s4 : s 4 = nI 2 := by rw [L (by decide), jaPt_ne (by decide), jaPt_ne (by decide)]; exact (jaIf1_f (by decide)).trans (jaIf1_t rfl)
  have s25 : s 25 = nI 1 := by rw [L (by decide), jaPt_eq]
  have s28 : s 28 = nI 0 := by rw [L (by decide), jaPt_ne (by decide), jaPt_ne (by decide), no 28 (by decide) (by decide)]
  have z1 : jz s 1 = 0 := by rw [jz, s1, jaIx_nI (by omega)]
  have z2 : jz s 2 = 1 := by rw [jz, s2, jaIx_nI (by omega)]
  have v30 : ∀ {j}, (jk0 S21 1).1 30 0 j = jkIv (jkCl (30, 1, 0)) j := jk0_v (by decide)
  obtain ⟨w0, w1, w2, w3, w4, w5⟩ := jkW_30
  have b34 : ∀ c, (jk0 S21 1).1 34 0 c = 0 := fun c => (jk0_z (by decide) (by decide +kernel) (by decide) c).1
  refine ⟨⟨⟨?_, ?_, ?_, ?_, ?_⟩, fun k hk => ?_, fun c hc => ?_, fun c _ => Or.inl (b34 c)⟩, ⟨?_, fun n hn => ?_⟩, fun n hn => ?_, ⟨?_, ?_, fun n hn => ?_, fun n hn => ?_⟩, fun c hc => ⟨fun q hq => ?_, fun n hn => ?_⟩, ⟨?_, fun q => ?_, ?_, fun q hq => ?_, fun n hn => ?_⟩, ?_, fun n hn => ?_⟩
  · exact (v30.trans w0).trans s0.symm
  · exact (v30.trans w1).trans s1.symm
  · exact (v30.trans w2).trans s2.symm
  · exact (v30.trans w3).trans s3.symm
  · exact (v30.trans w4).trans s4.symm
  · have hk : k < jz s 1 := hk
    rw [z1] at hk
    exact absurd hk (by omega)
  · have hc : c < jz s 2 := hc
    rw [z2] at hc
    have hc0 : c = 0 := by omega
    subst hc0
    refine ⟨?_, (b34 0).trans s28.symm⟩
    exact ((jk0_v (by decide)).trans w5).trans s25.symm
  · exact (jk0_z (by decide) (by decide +kernel) (by decide) 0).1.trans (Z (by omega)).symm
  · have hn : n < jz s 32 := hn
    rw [z (by omega)] at hn
    exact absurd hn (by omega)
  · have hn : n < jz s 33 := hn
    rw [z (by omega)] at hn
    exact absurd hn (by omega)
  · exact (jk0_z (by decide) (by decide +kernel) (by decide) 0).1.trans (Z (by omega)).symm
  · exact (jk0_z (by decide) (by decide +kernel) (by decide) 1).1.trans (Z (by omega)).symm
  · have hn : n < jz s 34 := hn
    rw [z (by omega)] at hn
    exact absurd hn (by omega)
  · have hn : n < jz s 35 := hn
    rw [z (by omega)] at hn
    exact absurd hn (by omega)
  · have hq : q < jz s 1 := hq
    rw [z1] at hq
    exact absurd hq (by omega)
  · have hn : n < jz s 34 := hn
    rw [z (by omega)] at hn
    exact absurd hn (by omega)
  · exact (jk0_z (by decide) (by decide +kernel) (by decide) 0).1.trans (Z (by omega)).symm
  · have q : s 36 = nI 1 := q
    rw [Z (by omega)] at q
    exact absurd q (by decide)
  · exact (jk0_z (by decide) (by decide +kernel) (by decide) 6).1.trans (Z (by omega)).symm
  · have hq : q < jz s 1 := hq
    rw [z1] at hq
    exact absurd hq (by omega)
  · have hn : n < jz s 40 := hn
    rw [z (by omega)] at hn
    exact absurd hn (by omega)
  · exact (jk0_z (by decide) (by decide +kernel) (by decide) 5).1.trans (Z (by omega)).symm
  · have hn : n < jz s 33 := hn
    rw [z (by omega)] at hn
    exact absurd hn (by omega)
set_option maxRecDepth 100000 in
/-- at the start all holds -/
theorem jI_start {S21 : jaS} : jI (jk0 S21) := by
  have hs := jkS_w (S21 := S21)
  have hR := jk0_R (S21 := S21) (d := (jk0 S21 20).1 75 0) (e := (jk0 S21 20).1 76 0)
  have hwu := jwUn_W jwNo_W.1 jwNo_W.2
  have v70 : ∀ {j}, (jk0 S21 20).1 70 0 j = jkIv (jkCl (70, 20, 0)) j := jk0_v (by decide)
  have v16 : ∀ {j}, (jk0 S21 0).1 16 0 j = jkIv (jkCl (16, 0, 0)) j := jk0_v (by decide)
  have zA : ∀ j, (jk0 S21 0).1 0 0 j = 0 := fun j => (jk0_z (by decide) (by decide +kernel) (by decide) j).1
  obtain ⟨m2, m18, m33, m37, m39, m43⟩ := jkW_70
  have and0 : (0 : Int32) &&& nI 255 = 0 := by decide
  have z71 : ∀ j, (jk0 S21 20).1 71 0 j = 0 := fun j => (jk0_z (by decide) (by decide +kernel) (by decide) j).1
  refine ⟨⟨⟨0, by omega, zA 1, v70.trans m2⟩, ?_, fun j _ => ?_⟩, ⟨hR, ?_, ?_, fun _ => 0, fun j _ => ?_, fun j _ _ => ?_, fun _ => ?_⟩, ⟨0, 0, by omega, by omega, zA 9, zA 8, v70.trans m33, ⟨fun j j' _ h => absurd h (by omega), fun j h => absurd h (by omega)⟩, fun j h => absurd h (by omega)⟩, ⟨0, by omega, zA 11, ?_⟩, fun k hk => ?_, Or.inl ⟨zA 17, v70.trans m43⟩, ⟨⟨[], Or.inr ⟨rfl, v70.trans m37⟩, v16.trans jkW_16.1, by show 0 ≤ 41; omega, fun j q h => by cases h⟩, Or.inl ⟨v16.trans jkW_16.2, v70.trans m39⟩⟩, ⟨?_, fun c _ => ?_⟩⟩
  · exact (zA 3).trans (v70.trans m18).symm
  · rw [z71 j, and0]
    exact ⟨(jk0_z (by decide) (by decide +kernel) (by decide) j).1, 0, by decide, rfl⟩
  · show jW ((jk0 S21 20).1 72 0) ((jk0 S21 20).1 75 0) ((jk0 S21 20).1 76 0)
    rw [hs]
    exact jvW0_W hwu
  · rw [hs, jvW0_z (by omega)]
    omega
  · exact ⟨(jk0_z (by decide) (by decide +kernel) (by decide) j).2, by show 0 < 9223372036854775808; omega⟩
  · exact (jk0_z (by decide) (by decide +kernel) (by decide) j).2
  · have h2 := hR.w.1.2.2.1
    have h2 : (jk0 S21 1).1 30 0 2 = (jk0 S21 20).1 72 0 2 := h2
    rw [jz, ← h2, jk0_v (by decide), jkW_30.2.2.1, jaIx_nI (by omega)]
  · refine Or.inl ⟨⟨(jk0_z (by decide) (by decide +kernel) (by decide) 0).1, (jk0_z (by decide) (by decide +kernel) (by decide) 2).1⟩, ?_⟩
    rw [hs, jvW0_0 (by omega)]
  · exact Or.inl ⟨(jk0_z (by decide) (by decide +kernel) (by decide) k).1, (jk0_z (by decide) (by decide +kernel) (by decide) k).1⟩
  · intro w hw
    have v79 : ∀ j, (jk0 S21 20).2 79 0 j = jkLv (jkCl (79, 20, 0)) j := fun j => by rw [jk0_k (by decide)]
    constructor
    · rintro ⟨j, hj, h⟩
      obtain ⟨h1, h2⟩ := jkRw_1 j hj
      rw [v79, jkW_79 j hj, jaL_inj h2 hw] at h
      rw [← h]
      exact h1
    · intro h
      obtain ⟨j, hj, rfl⟩ := jkRw_2 w h
      exact ⟨j, hj, (v79 j).trans (jkW_79 j hj)⟩
  · exact Or.inl (jk0_z (by decide) (by decide +kernel) (by decide) c).1
end
