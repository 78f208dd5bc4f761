section
/-! the reference: what a LINE of a WORLD is made of -/
theorem sp_M_num {D : Nat} (hD : 4 ≤ D) {kk : Int32 → jaT → Prop} {σ : jaT} {S : jaS} {X : jtX} {i lo hi : Nat} (hR : jmN S X i) (hlo : lo < 2147483648) (hhi : hi < 2147483648) (h : ∀ v, jwNum X lo hi i = .inr v → v < 1000 → ∀ S', jmN S' X (i + 1) → S'.1 70 0 21 = nI v → jaFr [] jmG S S' → kk (nI 1) (jaU σ 20 S')) (hf : ∀ c p, jwNum X lo hi i = .inl (c, p) → ∀ S', jmFl S' X c p → jaFr [] jmG S S' → kk (nI 0) (jaU σ 20 S')) : jaDe D jy_M_takes [jaMo, .inl (nI lo), .inl (nI hi)] (jaU σ 20 S) (jaKi kk) := by
  unfold jwNum at h hf
  refine sp_M_takes hD hR hlo hhi (fun q q1 q2 S' a b c => ?_) (fun q q1 S' a b => ?_) (fun q S' a b => ?_)
  · rw [jaIf1_t q, jaIf1_t ⟨q1, q2⟩] at h
    exact h _ rfl (jtV_lt hR.1.2.1 q) _ a b c
  · rw [jaIf1_t q, jaIf1_f q1] at hf
    exact hf _ _ rfl _ a b
  · rw [jaIf1_f q] at hf
    exact hf _ _ rfl _ a b
theorem sp_M_nam {D : Nat} (hD : 4 ≤ D) {kk : Int32 → jaT → Prop} {σ : jaT} {S : jaS} {X : jtX} {nm : Nat → Nat} {i f f0 n : Nat} (hR : jmN S X i) (hn : ∀ r, r < n → S.2 78 0 (f + r) = Int64.ofNat (nm (f0 + r)) ∧ nm (f0 + r) < 9223372036854775808) (hb : f + n ≤ 32) (h : ∀ r, jwNam X nm f0 n i = .inr r → ∀ S', jmN S' X (i + 1) → S'.1 70 0 21 = nI r → jaFr [] jmG S S' → kk (nI 1) (jaU σ 20 S')) (hf : ∀ c p, jwNam X nm f0 n i = .inl (c, p) → ∀ S', jmFl S' X c p → jaFr [] jmG S S' → kk (nI 0) (jaU σ 20 S')) : jaDe D jy_M_takesName [jaMo, .inl (nI f), .inl (nI n)] (jaU σ 20 S) (jaKi kk) := by
  unfold jwNam at h hf
  refine sp_M_takesName hD hR hn hb (fun r q ho S' a b c => ?_) (fun q ho S' a b => ?_) (fun q S' a b => ?_)
  · rw [jaIf1_t q, ho] at h
    exact h _ rfl _ a b c
  · rw [jaIf1_t q, ho] at hf
    exact hf _ _ rfl _ a b
  · rw [jaIf1_f q] at hf
    exact hf _ _ rfl _ a b
theorem sp_M_puts {D : Nat} (hD : 5 ≤ D) {kk : Int32 → jaT → Prop} {σ : jaT} {S : jaS} {X : jtX} {i j lo hi : Nat} (hR : jmN S X i) (hj : j < 31) (hlo : lo < 2147483648) (hhi : hi < 2147483648) (h : ∀ v, jwNum X lo hi i = .inr v → v < 1000 → ∀ S', jmN S' X (i + 1) → S'.1 73 0 = jaPt (S.1 73 0) j (nI v) → jaFr [73] jmG S S' → kk (nI 1) (jaU σ 20 S')) (hf : ∀ c p, jwNum X lo hi i = .inl (c, p) → ∀ S', jmFl S' X c p → jaFr [73] jmG S S' → kk (nI 0) (jaU σ 20 S')) : jaDe D jy_M_puts [jaMo, .inl (nI j), .inl (nI lo), .inl (nI hi)] (jaU σ 20 S) (jaKi kk) := by
  obtain ⟨D, rfl, hD⟩ := jaSuc hD
  apply js_M_puts
  refine sp_M_num (by omega) hR hlo hhi (fun v e v9 S1 a b f => ?_) (fun c p e S1 a f => ?_)
  · refine ⟨fun _ => ?_, fun z => absurd z (by decide)⟩
    simp (disch := first | omega | decide) only [jaU_eq, jaU_U, nI_add, pk_mul, jaIx_nI, vp_inT, true_and, and_true, ↓jaO0, ↓jaO1, nI_z, nI_z2, nI_z3, nI_z4, nI_z5, nI_lt', nI_le', nI_eq', jaUI_at, jaPt_eq, jaPt_ne, jaUI_o, jaUI_2, jaUL_at, jaUL_o, jaUL_1, jaB_z, jaB_1, ↓jaB_01, Classical.not_not, and_self, true_or, or_true, nI_11, Nat.reduceEqDiff, Nat.reduceAdd, Nat.reduceMul, Nat.add_zero, Nat.zero_add, Nat.mul_zero, not_true_eq_false, not_false_eq_true, false_implies, true_implies, b]
    have f1 : jaFr [73] [] S1 (jaUI S1 73 0 j (nI v)) := jaFr.rfl.ui (by decide) (by decide)
    exact h v e v9 _ (a.f f1 (by decide) (by decide) (fun _ _ => List.not_mem_nil)) (by rw [jaUI_at, f.s 73 (by decide) (by decide)]) ((f.mono (by decide) (by decide)).trans (f1.mono (by decide) (by decide)))
  · refine ⟨fun z => absurd rfl z, fun _ => ⟨Or.inl rfl, hf c p e S1 a (f.mono (by decide) (by decide))⟩⟩
/-- once told, e and l -/
theorem jmOn : ∀ e l : Fin 2, (jaBt (nI (e.1 + 2 * l.1)) 0 ↔ e.1 = 1) ∧ (jaBt (nI (e.1 + 2 * l.1)) 1 ↔ l.1 = 1) ∧ nI (e.1 + 2 * l.1) ||| (nI 1 <<< (nI 0 &&& 31)) = nI (1 + 2 * l.1) ∧ nI (e.1 + 2 * l.1) ||| (nI 1 <<< (nI 1 &&& 31)) = nI (e.1 + 2 * 1) := by
  unfold jaBt
  decide +kernel
theorem sp_M_once_0 {D : Nat} (hD : 4 ≤ D) {kk : Int32 → jaT → Prop} {σ : jaT} {S : jaS} {X : jtX} {i e l : Nat} (hR : jmN S X i) (ho : S.1 70 0 23 = nI (e + 2 * l)) (he : e ≤ 1) (hl : l ≤ 1) (h : e ≠ 1 → ∀ S', jmN S' X (i + 1) → S'.1 70 0 23 = nI (1 + 2 * l) → jaFr [] (23 :: jmG) S S' → kk (nI 1) (jaU σ 20 S')) (hf : e = 1 → ∀ S', jmFl S' X 3 i → jaFr [] (23 :: jmG) S S' → kk (nI 0) (jaU σ 20 S')) : jaDe D jy_M_once [jaMo, .inl (nI 0)] (jaU σ 20 S) (jaKi kk) := by
  obtain ⟨h1, h2, h3, h4⟩ := jmOn ⟨e, by omega⟩ ⟨l, by omega⟩
  simp only [] at h1 h2 h3 h4
  obtain ⟨D, rfl, hD⟩ := jaSuc hD
  apply js_M_once
  simp (disch := first | omega | decide) only [jaU_eq, jaU_U, nI_add, pk_mul, jaIx_nI, vp_inT, true_and, and_true, ↓jaO0, ↓jaO1, nI_z, nI_z2, nI_z3, nI_z4, nI_z5, nI_lt', nI_le', nI_eq', jaUI_at, jaPt_eq, jaPt_ne, jaUI_o, jaUI_2, jaUL_at, jaUL_o, jaUL_1, jaB_z, jaB_1, ↓jaB_01, Classical.not_not, and_self, true_or, or_true, nI_11, Nat.reduceEqDiff, Nat.reduceAdd, Nat.reduceMul, Nat.add_zero, Nat.zero_add, Nat.mul_zero, not_true_eq_false, not_false_eq_true, false_implies, true_implies, ho]
  refine sp_M_bitOf (by omega) ?_
  simp only [jaB_z, Classical.not_not, h1, jaU_eq, jaU_U, ho]
  refine ⟨fun z => ?_, fun z => sp_M_bad (by omega) hR (fun S' a f => ⟨Or.inl rfl, hf z S' a (f.mono (by decide) (by decide))⟩)⟩
  rw [h3]
  have f1 : jaFr [] [23] S (jaUI S 70 0 23 (nI (1 + 2 * l))) := jaFr.rfl.uf (by decide)
  refine sp_M_next' (by omega) (hR.f f1 (by decide) (by decide) (by decide)) (fun S' a f => ?_)
  refine h z S' a ?_ ((f1.mono (by decide) (by decide)).trans (f.mono (by decide) (by decide)))
  rw [f.f 23 (by decide)]
  simp (disch := first | omega | decide) only [jaU_eq, jaU_U, nI_add, pk_mul, jaIx_nI, vp_inT, true_and, and_true, ↓jaO0, ↓jaO1, nI_z, nI_z2, nI_z3, nI_z4, nI_z5, nI_lt', nI_le', nI_eq', jaUI_at, jaPt_eq, jaPt_ne, jaUI_o, jaUI_2, jaUL_at, jaUL_o, jaUL_1, jaB_z, jaB_1, ↓jaB_01, Classical.not_not, and_self, true_or, or_true, nI_11, Nat.reduceEqDiff, Nat.reduceAdd, Nat.reduceMul, Nat.add_zero, Nat.zero_add, Nat.mul_zero, not_true_eq_false, not_false_eq_true, false_implies, true_implies]

theorem sp_M_once_1 {D : Nat} (hD : 4 ≤ D) {kk : Int32 → jaT → Prop} {σ : jaT} {S : jaS} {X : jtX} {i e l : Nat} (hR : jmN S X i) (ho : S.1 70 0 23 = nI (e + 2 * l)) (he : e ≤ 1) (hl : l ≤ 1) (h : l ≠ 1 → ∀ S', jmN S' X (i + 1) → S'.1 70 0 23 = nI (e + 2 * 1) → jaFr [] (23 :: jmG) S S' → kk (nI 1) (jaU σ 20 S')) (hf : l = 1 → ∀ S', jmFl S' X 3 i → jaFr [] (23 :: jmG) S S' → kk (nI 0) (jaU σ 20 S')) : jaDe D jy_M_once [jaMo, .inl (nI 1)] (jaU σ 20 S) (jaKi kk) := by
  obtain ⟨h1, h2, h3, h4⟩ := jmOn ⟨e, by omega⟩ ⟨l, by omega⟩
  simp only [] at h1 h2 h3 h4
  obtain ⟨D, rfl, hD⟩ := jaSuc hD
  apply js_M_once
  simp (disch := first | omega | decide) only [jaU_eq, jaU_U, nI_add, pk_mul, jaIx_nI, vp_inT, true_and, and_true, ↓jaO0, ↓jaO1, nI_z, nI_z2, nI_z3, nI_z4, nI_z5, nI_lt', nI_le', nI_eq', jaUI_at, jaPt_eq, jaPt_ne, jaUI_o, jaUI_2, jaUL_at, jaUL_o, jaUL_1, jaB_z, jaB_1, ↓jaB_01, Classical.not_not, and_self, true_or, or_true, nI_11, Nat.reduceEqDiff, Nat.reduceAdd, Nat.reduceMul, Nat.add_zero, Nat.zero_add, Nat.mul_zero, not_true_eq_false, not_false_eq_true, false_implies, true_implies, ho]
  refine sp_M_bitOf (by omega) ?_
  simp only [jaB_z, Classical.not_not, h2, jaU_eq, jaU_U, ho]
  refine ⟨fun z => ?_, fun z => sp_M_bad (by omega) hR (fun S' a f => ⟨Or.inl rfl, hf z S' a (f.mono (by decide) (by decide))⟩)⟩
  rw [h4]
  have f1 : jaFr [] [23] S (jaUI S 70 0 23 (nI (e + 2 * 1))) := jaFr.rfl.uf (by decide)
  refine sp_M_next' (by omega) (hR.f f1 (by decide) (by decide) (by decide)) (fun S' a f => ?_)
  refine h z S' a ?_ ((f1.mono (by decide) (by decide)).trans (f.mono (by decide) (by decide)))
  rw [f.f 23 (by decide)]
  simp (disch := first | omega | decide) only [jaU_eq, jaU_U, nI_add, pk_mul, jaIx_nI, vp_inT, true_and, and_true, ↓jaO0, ↓jaO1, nI_z, nI_z2, nI_z3, nI_z4, nI_z5, nI_lt', nI_le', nI_eq', jaUI_at, jaPt_eq, jaPt_ne, jaUI_o, jaUI_2, jaUL_at, jaUL_o, jaUL_1, jaB_z, jaB_1, ↓jaB_01, Classical.not_not, and_self, true_or, or_true, nI_11, Nat.reduceEqDiff, Nat.reduceAdd, Nat.reduceMul, Nat.add_zero, Nat.zero_add, Nat.mul_zero, not_true_eq_false, not_false_eq_true, false_implies, true_implies]
/-- NAMES so far, in the reference -/
def jmM (S : jaS) (h : jvA) (nm : Nat → Nat) : Prop := ∀ j, j < 16 → jwU h j → S.2 78 0 (16 + j) = Int64.ofNat (nm j)
set_option maxHeartbeats 1000000 in
theorem sp_M_fresh {D : Nat} (hD : 4 ≤ D) {kk : Int32 → jaT → Prop} {σ : jaT} {S : jaS} {X : jtX} {h0 : jvA} {nm : Nat → Nat} {i slot : Nat} (hR : jmN S X i) (hh : S.1 73 0 0 = nI (jz h0 0) ∧ S.1 73 0 1 = nI (jz h0 1) ∧ S.1 73 0 2 = nI (jz h0 2)) (h3 : jz h0 0 ≤ 3) (h10 : jz h0 1 ≤ 10) (h2 : jz h0 2 ≤ 3) (hm : jmM S h0 nm) (h9 : ∀ j, j < 16 → nm j < 9223372036854775808) (hs : slot < 16)
    (h : ∀ nm', jwNew X h0 nm slot i = .inr nm' → ∀ S', jmN S' X (i + 1) → S'.2 78 0 (16 + slot) = Int64.ofNat (nm' slot) → (∀ j, j ≠ 16 + slot → S'.2 78 0 j = S.2 78 0 j) → jaFr [78] jmG S S' → kk (nI 1) (jaU σ 20 S')) (hf : ∀ c p, jwNew X h0 nm slot i = .inl (c, p) → ∀ S', jmFl S' X c p → jaFr [] jmG S S' → kk (nI 0) (jaU σ 20 S')) : jaDe D jy_M_fresh [jaMo, .inl (nI (16 + slot))] (jaU σ 20 S) (jaKi kk) := by
  obtain ⟨D, rfl, hD⟩ := jaSuc hD
  obtain ⟨c0, c1, c2⟩ := hh
  unfold jwNew at h hf
  apply js_M_fresh
  refine sp_M_isName (by omega) hR ?_
  simp (disch := first | omega | decide) only [jaU_eq, jaU_U, nI_add, pk_mul, jaIx_nI, vp_inT, true_and, and_true, ↓jaO0, ↓jaO1, nI_z, nI_z2, nI_z3, nI_z4, nI_z5, nI_lt', nI_le', nI_eq', jaUI_at, jaPt_eq, jaPt_ne, jaUI_o, jaUI_2, jaUL_at, jaUL_o, jaUL_1, jaB_z, jaB_1, ↓jaB_01, Classical.not_not, and_self, true_or, or_true, nI_11, Nat.reduceEqDiff, Nat.reduceAdd, Nat.reduceMul, Nat.add_zero, Nat.zero_add, Nat.mul_zero, not_true_eq_false, not_false_eq_true, false_implies, true_implies, c0, c1, c2]
  refine ⟨fun q => ?_, fun q => ?_⟩
  · rw [jaIf1_t q] at h hf
    have q1 := jtTc_w.mpr (Or.inl q)
    obtain ⟨k1, k2⟩ := jtW_k hR.1.2.1 q1
    have w20 := hR.1.2.2.2.2.2.2.2.2.2 q1
    have used : ∀ {f n r}, jnF nm f (jtW X i) n 0 = some r → (∀ r, r < n → jwU h0 (f + r)) → f + n ≤ 16 → jaDe D jy_M_bad [jaMo, .inl (nI 3)] (jaU σ 20 S) (jaKi fun r6 σ5 => (r6 = 0 ∨ r6 = 1) ∧ kk r6 σ5) := fun {f n r} ho hu hb => by
      obtain ⟨l1, l2, l3⟩ := jnF_lt _ _ ho
      rw [jaIf1_t ⟨f + r, by omega, hu r (by omega), l3⟩] at hf
      exact sp_M_bad (by omega) hR (fun S' a f => ⟨Or.inl rfl, hf 3 i rfl S' a f⟩)
    refine sp_M_seek (nm := nm) (f0 := 0) (by omega) (fun r hr => ⟨by rw [Nat.zero_add]; exact hm r (by omega) (Or.inl hr), h9 _ (by omega)⟩) (by omega) w20 k2 ?_
    rcases ho : jnF nm 0 (jtW X i) (jz h0 0) 0 with _ | r
    · refine ⟨fun z => absurd (show (0 : Int32) ≤ -1 from z) (by decide), fun _ => ?_⟩
      (try simp (disch := first | omega | decide) only [jaU_eq, jaU_U, nI_add, pk_mul, jaIx_nI, vp_inT, true_and, and_true, ↓jaO0, ↓jaO1, nI_z, nI_z2, nI_z3, nI_z4, nI_z5, nI_lt', nI_le', nI_eq', jaUI_at, jaPt_eq, jaPt_ne, jaUI_o, jaUI_2, jaUL_at, jaUL_o, jaUL_1, jaB_z, jaB_1, ↓jaB_01, Classical.not_not, and_self, true_or, or_true, nI_11, Nat.reduceEqDiff, Nat.reduceAdd, Nat.reduceMul, Nat.add_zero, Nat.zero_add, Nat.mul_zero, not_true_eq_false, not_false_eq_true, false_implies, true_implies, c1])
      refine sp_M_seek (nm := nm) (f0 := 3) (by omega) (fun r hr => ⟨by rw [show 19 + r = 16 + (3 + r) by omega]; exact hm (3 + r) (by omega) (Or.inr (Or.inl (by omega))), h9 _ (by omega)⟩) (by omega) w20 k2 ?_
      rcases ho2 : jnF nm 3 (jtW X i) (jz h0 1) 0 with _ | r
      · refine ⟨fun z => absurd (show (0 : Int32) ≤ -1 from z) (by decide), fun _ => ?_⟩
        (try simp (disch := first | omega | decide) only [jaU_eq, jaU_U, nI_add, pk_mul, jaIx_nI, vp_inT, true_and, and_true, ↓jaO0, ↓jaO1, nI_z, nI_z2, nI_z3, nI_z4, nI_z5, nI_lt', nI_le', nI_eq', jaUI_at, jaPt_eq, jaPt_ne, jaUI_o, jaUI_2, jaUL_at, jaUL_o, jaUL_1, jaB_z, jaB_1, ↓jaB_01, Classical.not_not, and_self, true_or, or_true, nI_11, Nat.reduceEqDiff, Nat.reduceAdd, Nat.reduceMul, Nat.add_zero, Nat.zero_add, Nat.mul_zero, not_true_eq_false, not_false_eq_true, false_implies, true_implies, c2])
        refine sp_M_seek (nm := nm) (f0 := 13) (by omega) (fun r hr => ⟨by rw [show 29 + r = 16 + (13 + r) by omega]; exact hm (13 + r) (by omega) (Or.inr (Or.inr (by omega))), h9 _ (by omega)⟩) (by omega) w20 k2 ?_
        rcases ho3 : jnF nm 13 (jtW X i) (jz h0 2) 0 with _ | r
        · have no : ¬ ∃ j, j < 16 ∧ jwU h0 j ∧ nm j = jtW X i := by
            rintro ⟨j, j1, j2, j3⟩
            rw [jnF_no] at ho ho2 ho3
            rcases j2 with j2 | j2 | j2
            · exact ho j (by omega) (by omega) (by rw [Nat.zero_add]; exact j3)
            · exact ho2 (j - 3) (by omega) (by omega) (by rw [show 3 + (j - 3) = j by omega]; exact j3)
            · exact ho3 (j - 13) (by omega) (by omega) (by rw [show 13 + (j - 13) = j by omega]; exact j3)
          rw [jaIf1_f no] at h
          refine ⟨fun _ => ?_, fun z => absurd (show (-1 : Int32) < 0 by decide) z⟩
          have f1 : jaFr [78] [] S (jaUL S 78 0 (16 + slot) (Int64.ofNat (jtW X i))) := jaFr.rfl.lo (by decide) (by decide)
          (try simp (disch := first | omega | decide) only [jaU_eq, jaU_U, nI_add, pk_mul, jaIx_nI, vp_inT, true_and, and_true, ↓jaO0, ↓jaO1, nI_z, nI_z2, nI_z3, nI_z4, nI_z5, nI_lt', nI_le', nI_eq', jaUI_at, jaPt_eq, jaPt_ne, jaUI_o, jaUI_2, jaUL_at, jaUL_o, jaUL_1, jaB_z, jaB_1, ↓jaB_01, Classical.not_not, and_self, true_or, or_true, nI_11, Nat.reduceEqDiff, Nat.reduceAdd, Nat.reduceMul, Nat.add_zero, Nat.zero_add, Nat.mul_zero, not_true_eq_false, not_false_eq_true, false_implies, true_implies, w20])
          refine sp_M_next' (by omega) (hR.f f1 (by decide) (by decide) (fun _ _ => List.not_mem_nil)) (fun S' a f => ?_)
          (try simp (disch := first | omega | decide) only [jaU_eq, jaU_U, nI_add, pk_mul, jaIx_nI, vp_inT, true_and, and_true, ↓jaO0, ↓jaO1, nI_z, nI_z2, nI_z3, nI_z4, nI_z5, nI_lt', nI_le', nI_eq', jaUI_at, jaPt_eq, jaPt_ne, jaUI_o, jaUI_2, jaUL_at, jaUL_o, jaUL_1, jaB_z, jaB_1, ↓jaB_01, Classical.not_not, and_self, true_or, or_true, nI_11, Nat.reduceEqDiff, Nat.reduceAdd, Nat.reduceMul, Nat.add_zero, Nat.zero_add, Nat.mul_zero, not_true_eq_false, not_false_eq_true, false_implies, true_implies])
          refine h _ rfl S' a ?_ (fun j hj => ?_) ((f1.mono (by decide) (by decide)).trans (f.mono (by decide) (by decide)))
          · rw [f.l 78 (by decide) (by decide), jaUL_at]
            unfold jnPt
            rw [if_pos rfl]
            exact if_pos rfl
          · rw [f.l 78 (by decide) (by decide), jaUL_at]
            exact if_neg hj
        · refine ⟨fun z => absurd z (nI_pos (by have := jnF_lt _ _ ho3; omega)), fun _ => used ho3 (fun r hr => Or.inr (Or.inr (by omega))) (by omega)⟩
      · refine ⟨fun _ => used ho2 (fun r hr => Or.inr (Or.inl (by omega))) (by omega), fun z => absurd (show (0 : Int32) ≤ nI r from nI_pos' (by have := jnF_lt _ _ ho2; omega)) z⟩
    · refine ⟨fun _ => used ho (fun r hr => Or.inl (by omega)) (by omega), fun z => absurd (show (0 : Int32) ≤ nI r from nI_pos' (by have := jnF_lt _ _ ho; omega)) z⟩
  · rw [jaIf1_f q] at hf
    exact sp_M_bad (by omega) hR (fun S' a f => ⟨Or.inl rfl, hf 1 i rfl S' a f⟩)
end
