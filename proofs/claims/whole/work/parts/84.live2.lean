section
/-! rows that grew; a BOOK lives -/
theorem jW_g {s d e d' e' : jvA} (h : jW s d e) (hd : ∀ j, j < 133 * jz s 32 → d' j = d j) (he : ∀ j, j < 9 * jz s 33 → e' j = e j) : jW s d' e' := jW_e (jW_d h hd) he
theorem jR_g {S : jaS} {s d e d' e' : jvA} (hR : jR S (s, d, e)) (h : jW s d e) (hd : ∀ j, j < 133 * jz s 32 → d' j = d j) (he : ∀ j, j < 9 * jz s 33 → e' j = e j) : jR S (s, d', e') := by
  refine ⟨hR.w, ⟨hR.s.1, fun n hn => ?_⟩, fun id hid => ?_, hR.o, hR.c, hR.k, hR.t, hR.p⟩
  · have hn : n < jz s 32 := hn
    have hr := hR.s.2 n hn
    have e0 := hd (133 * n) (by omega)
    show jRt S d' n
    exact jRt_m (n := n) (h.d n hn) (hr.1.trans e0.symm) rfl rfl (fun _ _ => rfl) (fun _ _ => rfl) (fun j h1 h2 => hd _ (by omega)) hr
  · have hid : id < jz s 33 := hid
    have hi := (h.e id hid).1.2
    obtain ⟨r1, r2, r3, r4, r5⟩ := hR.e id hid
    have e0 := he (9 * id) (by omega)
    show jRi S d' e' id
    unfold jRi
    rw [e0, he (9 * id + 2) (by omega), he (9 * id + 3) (by omega), he (9 * id + 4) (by omega), jz_c e0, jz_c (hd (133 * jz e (9 * id) + 2) (by omega))]
    refine ⟨r1, r2, r3, r4, fun j hj => ?_⟩
    have ha := (h.d _ hi).2.2.2.1.2
    rw [he (9 * id + 5 + j) (by omega)]
    exact r5 j hj
/-- kept ahead, brought back -/
theorem jvCp_k {s s' b : jvA} (h : ∀ j, j < 31 ∨ 525 ≤ j → s' j = s j) (hb : ∀ i, i < 494 → b i = s (31 + i)) : jvCp s' 31 b 0 494 = s := by
  funext j
  show (if 31 ≤ j ∧ j < 31 + 494 then b (0 + (j - 31)) else s' j) = s j
  by_cases q : 31 ≤ j ∧ j < 31 + 494
  · rw [if_pos q, hb _ (by omega)]
    exact congrArg s (by omega)
  · rw [if_neg q]
    exact h j (by omega)
theorem jvSt_o {s s' u b : jvA} {m : Nat} (hb : ∀ i, i < 494 → b i = s (31 + i)) : jvCp (jvSt s' u m) (494 * (jvStM m - 1)) b 0 494 = jvSt s u m := by
  unfold jvSt jvStM
  by_cases q : m = 8
  · rw [jaIf1_t q, jaIf1_t q, jaIf1_t q]
    funext j
    show (if 494 * (8 - 1) ≤ j ∧ j < 494 * (8 - 1) + 494 then b (0 + (j - 494 * (8 - 1))) else (if 3458 ≤ j ∧ j < 3458 + 494 then s' (31 + (j - 3458)) else jvCp u 0 u 494 3458 j)) = (if 3458 ≤ j ∧ j < 3458 + 494 then s (31 + (j - 3458)) else jvCp u 0 u 494 3458 j)
    by_cases z : 3458 ≤ j ∧ j < 3458 + 494
    · rw [if_pos (by omega), if_pos z, hb _ (by omega)]
      exact congrArg s (by omega)
    · rw [if_neg (by omega), if_neg z, if_neg z]
  · rw [jaIf1_f q, jaIf1_f q, jaIf1_f q, Nat.add_sub_cancel]
    funext j
    show (if 494 * m ≤ j ∧ j < 494 * m + 494 then b (0 + (j - 494 * m)) else (if 494 * m ≤ j ∧ j < 494 * m + 494 then s' (31 + (j - 494 * m)) else u j)) = (if 494 * m ≤ j ∧ j < 494 * m + 494 then s (31 + (j - 494 * m)) else u j)
    by_cases z : 494 * m ≤ j ∧ j < 494 * m + 494
    · rw [if_pos z, if_pos z, hb _ (by omega)]
      exact congrArg s (by omega)
    · rw [if_neg z, if_neg z, if_neg z]
theorem jvLv_n {t a b : Nat} {x : jvX} : ∃ w, w ≤ 31 ∧ (jvLv t a b x).1 = nI w := by
  unfold jvLv
  by_cases q0 : t = 0
  · rw [jaIf1_t q0]
    by_cases q1 : b < jz x.1 32
    · rw [jaIf1_t q1]
      by_cases q2 : jz x.1 32 = 24
      · rw [jaIf1_t q2]; exact ⟨1, by decide, rfl⟩
      · rw [jaIf1_f q2]; exact ⟨0, by decide, rfl⟩
    · rw [jaIf1_f q1]; exact ⟨9, by decide, rfl⟩
  · rw [jaIf1_f q0]
    by_cases q1 : t = 1
    · rw [jaIf1_t q1]
      by_cases q2 : x.1 36 = nI 1
      · rw [jaIf1_t q2]; exact ⟨11, by decide, rfl⟩
      · rw [jaIf1_f q2]; exact ⟨0, by decide, rfl⟩
    · rw [jaIf1_f q1]
      by_cases q2 : t = 2
      · rw [jaIf1_t q2]
        by_cases q3 : jz x.1 34 = 0
        · rw [jaIf1_t q3]; exact ⟨21, by decide, rfl⟩
        · rw [jaIf1_f q3]; exact ⟨0, by decide, rfl⟩
      · rw [jaIf1_f q2]
        by_cases q3 : 1000 < jz x.1 31 + a
        · rw [jaIf1_t q3]; exact ⟨31, by decide, rfl⟩
        · rw [jaIf1_f q3]; exact ⟨0, by decide, rfl⟩
/-- all LINES, one behind the other -/
noncomputable def jbGo (ls : Nat → jbY) : Nat → Nat → jvX → Int32 × Nat × jvX
  | 0, i, x => (nI 0, i, x)
  | m + 1, i, x => jaIf1 ((jvLv (ls i).1 (ls i).2.1 (ls i).2.2 x).1 = nI 0) (jbGo ls m (i + 1) (jvLv (ls i).1 (ls i).2.1 (ls i).2.2 x).2) ((jvLv (ls i).1 (ls i).2.1 (ls i).2.2 x).1, i, (jvLv (ls i).1 (ls i).2.1 (ls i).2.2 x).2)
theorem jbOk_l {s : jvA} {y : jbY} (h : jbOk (jz s 0) (jz s 2) y) : jBl s y.1 y.2.1 y.2.2 := ⟨h.1, h.2.1, h.2.2.1, h.2.2.2.1⟩
theorem jK3.s0 {x y : jvX} (h : jK3 x y) {j : Nat} (hj : j < 31) : jz y.1 j = jz x.1 j := jz_c (h.1 j (Or.inl hj))
theorem jbGo_W {ls : Nat → jbY} : ∀ m i x, jW3 x → jz x.1 31 ≤ 1000 → (∀ j, i ≤ j → j < i + m → jbOk (jz x.1 0) (jz x.1 2) (ls j)) → jW3 (jbGo ls m i x).2.2 ∧ jK3 x (jbGo ls m i x).2.2 ∧ jz (jbGo ls m i x).2.2.1 31 ≤ 1000 ∧ i ≤ (jbGo ls m i x).2.1 ∧ (jbGo ls m i x).2.1 ≤ i + m ∧ (∃ w, w ≤ 31 ∧ (jbGo ls m i x).1 = nI w)
  | 0, i, x, hW, ht, _ => ⟨hW, jK3.rfl, ht, Nat.le_refl _, Nat.le_refl _, 0, by decide, rfl⟩
  | m + 1, i, x, hW, ht, hl => by
    obtain ⟨w1, w2, w3⟩ := jvLv_W hW ht (jbOk_l (hl i (Nat.le_refl _) (by omega)))
    rw [jbGo]
    by_cases q : (jvLv (ls i).1 (ls i).2.1 (ls i).2.2 x).1 = nI 0
    · rw [jaIf1_t q]
      obtain ⟨a, b, c, d, e, f⟩ := jbGo_W m (i + 1) _ w1 w3 (fun j h1 h2 => by rw [w2.s0 (by decide), w2.s0 (by decide)]; exact hl j (by omega) (by omega))
      exact ⟨a, w2.trans b, c, by omega, by omega, f⟩
    · rw [jaIf1_f q]
      exact ⟨w1, w2, w3, Nat.le_refl _, Nat.le_add_right _ _, jvLv_n⟩
end
