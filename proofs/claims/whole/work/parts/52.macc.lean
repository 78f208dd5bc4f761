section
/-! the reference: the token at hand -/
def jmV (S : jaS) : Prop := ∀ w, w < 9223372036854775808 → ((∃ j, j < 29 ∧ S.2 79 0 j = Int64.ofNat w) ↔ w ∈ jtWs)
def jmN (S : jaS) (X : jtX) (i : Nat) : Prop := jmR S X i ∧ jmV S
theorem jmN.f {A F : List Nat} {S S' : jaS} {X : jtX} {i : Nat} (h : jmN S X i) (f : jaFr A F S S') (h71 : 71 ∉ A) (h79 : 79 ∉ A) (hF : ∀ j, j ∈ [3, 4, 5, 14, 15, 17, 18, 20] → j ∉ F) : jmN S' X i := by
  obtain ⟨⟨a, b, c, d, e, g, k, l, m, n⟩, v⟩ := h
  have F1 := fun j hj => f.f j (hF j hj)
  refine ⟨⟨a.f f h71 (hF 3 (by decide)) (hF 5 (by decide)) (hF 18 (by decide)), b, c, (F1 4 (by decide)).trans d, e, (F1 14 (by decide)).trans g, (F1 15 (by decide)).trans k, fun q => (F1 17 (by decide)).trans (l q), fun q => (F1 17 (by decide)).trans (m q), fun q => (f.fl 20 (hF 20 (by decide))).trans (n q)⟩, fun w hw => ?_⟩
  rw [f.l 79 h79 (by decide)]
  exact v w hw
theorem jmR.w {S S' : jaS} (h : jmV S) (e : S'.2 79 = S.2 79) : jmV S' := by
  unfold jmV
  rw [e]
  exact h
theorem sp_M_next' {D : Nat} (hD : 3 ≤ D) {kk : jaT → Prop} {σ : jaT} {S : jaS} {X : jtX} {i : Nat} (hR : jmN S X i) (h : ∀ S', jmN S' X (i + 1) → jaFr [] [4, 14, 15, 16, 17, 20] S S' → kk (jaU σ 20 S')) : jaDe D jy_M_next [jaMo] (jaU σ 20 S) (jaKv kk) := by
  obtain ⟨⟨a, b, c, d, e, -⟩, v⟩ := hR
  exact sp_M_next hD a b c d e (fun S' a1 f => h S' ⟨a1, jmR.w v (f.l 79 (by decide) (by decide))⟩ f)
/-! kinds of words -/
theorem jtKl_3 {w : Nat} : ∀ (l : List Nat) (k : Nat), 4 ≤ k → (jtKl l k w = 3 ↔ w ∉ l)
  | [], k, _ => by rw [jtKl]; exact ⟨fun _ => List.not_mem_nil, fun _ => rfl⟩
  | c :: l, k, h => by
    rw [jtKl]
    by_cases q : c = w
    · rw [if_pos q, q]
      exact ⟨fun z => by omega, fun z => absurd List.mem_cons_self z⟩
    · rw [if_neg q, jtKl_3 l (k + 1) (by omega)]
      exact ⟨fun z y => (List.mem_cons.mp y).elim (fun e => q e.symm) z, fun z y => z (List.mem_cons_of_mem _ y)⟩
theorem jtKl_n {w : Nat} : ∀ (l : List Nat) (k n : Nat), 4 ≤ k → n < l.length → l.Nodup → (jtKl l k w = k + n ↔ w = jaN 0 l n)
  | [], _, _, _, h, _ => absurd h (by simp)
  | c :: l, k, 0, h, _, _ => by
    rw [jtKl, jaN]
    by_cases q : c = w
    · rw [if_pos q]
      exact ⟨fun _ => q.symm, fun _ => rfl⟩
    · rw [if_neg q]
      have hw : ∀ (l : List Nat) (k : Nat), 4 ≤ k → jtKl l k w = 3 ∨ k ≤ jtKl l k w := by
        intro l
        induction l with
        | nil => intro k _; rw [jtKl]; exact Or.inl rfl
        | cons c l ih =>
          intro k hk
          rw [jtKl]
          by_cases q : c = w
          · rw [if_pos q]; exact Or.inr (Nat.le_refl _)
          · rw [if_neg q]
            have := ih (k + 1) (by omega)
            omega
      have := hw l (k + 1) (by omega)
      exact ⟨fun z => by omega, fun z => absurd z.symm q⟩
  | c :: l, k, n + 1, h, hn, hd => by
    rw [List.length_cons] at hn
    rw [List.nodup_cons] at hd
    rw [jtKl, jaN]
    have ih := jtKl_n (w := w) l (k + 1) n (by omega) (by omega) hd.2
    have hm : jaN 0 l n ∈ l := by
      have : ∀ (l : List Nat) (n : Nat), n < l.length → jaN 0 l n ∈ l := by
        intro l
        induction l with
        | nil => intro n hn; exact absurd hn (by simp)
        | cons c l ih =>
          intro n hn
          cases n with
          | zero => exact List.mem_cons_self
          | succ n => exact List.mem_cons_of_mem _ (ih n (by rw [List.length_cons] at hn; omega))
      exact this l n (by omega)
    by_cases q : c = w
    · rw [if_pos q]
      exact ⟨fun z => by omega, fun z => absurd (by rw [q, z]; exact hm) hd.1⟩
    · rw [if_neg q, show k + (n + 1) = k + 1 + n by omega]
      exact ih
theorem jtKw_n {w n : Nat} (hn : n < 29) : jtKw w = 100 + n ↔ w = jaN 0 jtWs n := jtKl_n jtWs 100 n (by decide) hn (by decide +kernel)
theorem jtKw_3 {w : Nat} : jtKw w = 3 ↔ w ∉ jtWs := jtKl_3 jtWs 100 (by decide)
/-- what a word's token says -/
theorem jtW_k {X : jtX} (hX : ∀ q, X.1 q < 256) {i : Nat} (h : jtTc (jtK X i) = 1) : jtK X i = jtKw (jtW X i) ∧ jtW X i < 9223372036854775808 := by
  have t0 : jtTc 0 = 4 := rfl
  have t1 : jtTc 1 = 0 := rfl
  have t2 : jtTc 2 = 2 := rfl
  unfold jtK at h ⊢
  by_cases q : jtFi X (jtA X i)
  · rw [jaIf1_t q] at h
    by_cases q2 : X.2.2 < X.2.1
    · rw [jaIf1_t q2, t0] at h; exact absurd h (by decide)
    · rw [jaIf1_f q2, t1] at h; exact absurd h (by decide)
  · rw [jaIf1_f q] at h ⊢
    unfold jtKa at h ⊢
    by_cases q1 : jtO (X.1 (jtA X i))
    · rw [jaIf1_t q1] at h ⊢
      by_cases q2 : (∀ q, jtA X i ≤ q → q < jtRn X (jtA X i) → jtD (X.1 q)) ∧ jtRn X (jtA X i) ≤ jtA X i + 3
      · rw [jaIf1_t q2, t2] at h; exact absurd h (by decide)
      · rw [jaIf1_f q2] at h ⊢
        by_cases q3 : (∀ q, jtA X i ≤ q → q < jtRn X (jtA X i) → jtL (X.1 q)) ∧ jtRn X (jtA X i) ≤ jtA X i + 7
        · rw [jaIf1_t q3]
          exact ⟨rfl, jtWv_63 hX (by omega)⟩
        · rw [jaIf1_f q3, t0] at h; exact absurd h (by decide)
    · rw [jaIf1_f q1] at h
      by_cases q2 : jtSg (X.1 (jtA X i))
      · rw [jaIf1_t q2] at h
        unfold jtSg at q2
        unfold jtTc at h
        rw [if_neg (by omega), if_neg (by omega), if_neg (by omega)] at h
        by_cases w : X.1 (jtA X i) = 0 ∨ X.1 (jtA X i) = 46
        · rw [if_pos w] at h; exact absurd h (by decide)
        · rw [if_neg w] at h; exact absurd h (by decide)
      · rw [jaIf1_f q2, t0] at h; exact absurd h (by decide)
theorem jtTc_w {K : Nat} : jtTc K = 1 ↔ K = 3 ∨ 100 ≤ K := by
  unfold jtTc
  by_cases q1 : K = 1
  · rw [if_pos q1]; exact ⟨fun z => absurd z (by decide), fun z => by omega⟩
  · rw [if_neg q1]
    by_cases q2 : K = 2
    · rw [if_pos q2]; exact ⟨fun z => absurd z (by decide), fun z => by omega⟩
    · rw [if_neg q2]
      by_cases q3 : K = 3 ∨ 100 ≤ K
      · rw [if_pos q3]; exact ⟨fun _ => q3, fun _ => rfl⟩
      · rw [if_neg q3]
        refine ⟨fun z => ?_, fun z => absurd z q3⟩
        by_cases w : K = 0 ∨ K = 46
        · rw [if_pos w] at z; exact absurd z (by decide)
        · rw [if_neg w] at z; exact absurd z (by decide)
theorem jtTc_lt {K : Nat} : jtTc K < 5 := by
  unfold jtTc
  by_cases q1 : K = 1
  · rw [if_pos q1]; decide
  · rw [if_neg q1]
    by_cases q2 : K = 2
    · rw [if_pos q2]; decide
    · rw [if_neg q2]
      by_cases q3 : K = 3 ∨ 100 ≤ K
      · rw [if_pos q3]; decide
      · rw [if_neg q3]
        by_cases w : K = 0 ∨ K = 46
        · rw [if_pos w]; decide
        · rw [if_neg w]; decide
theorem sp_M_isWord {D : Nat} (hD : 1 ≤ D) {kk : Int32 → jaT → Prop} {σ : jaT} {S : jaS} {X : jtX} {i n W : Nat} (hR : jmN S X i) (hn : n < 29) (hW : W = jaN 0 jtWs n) (h : kk (jaB (jtK X i = 100 + n)) (jaU σ 20 S)) : jaDe D jy_M_isWord [jaMo, .inr (.inl (Int64.ofNat W))] (jaU σ 20 S) (jaKi kk) := by
  obtain ⟨⟨a, hX, c, d, e, g, k, l, m, nn⟩, v⟩ := hR
  have ht := jtTc_lt (K := jtK X i)
  have hw9 : ∀ n : Fin 29, jaN 0 jtWs n.1 < 9223372036854775808 := by decide +kernel
  have hw9' : W < 9223372036854775808 := by rw [hW]; exact hw9 ⟨n, hn⟩
  obtain ⟨D, rfl, hD⟩ := jaSuc hD
  apply js_M_isWord
  simp (disch := first | omega | decide) only [jaU_eq, jaU_U, nI_add, pk_mul, jaIx_nI, vp_inT, true_and, and_true, ↓jaO0, ↓jaO1, nI_z, nI_z2, nI_z3, nI_z4, nI_z5, nI_lt', nI_le', nI_eq', jaUI_at, jaPt_eq, jaPt_ne, jaUI_o, jaUI_2, jaUL_at, jaUL_o, jaUL_1, jaB_z, jaB_1, ↓jaB_01, Classical.not_not, and_self, true_or, or_true, nI_11, Nat.reduceEqDiff, Nat.reduceAdd, Nat.reduceMul, Nat.add_zero, Nat.zero_add, Nat.mul_zero, not_true_eq_false, not_false_eq_true, false_implies, true_implies, g, lg_cmp_eq]
  refine ⟨fun q => ?_, fun q => ?_⟩
  · rwa [jaB_f (fun z => q (jtTc_w.mpr (Or.inr (by omega))))] at h
  · obtain ⟨k1, k2⟩ := jtW_k hX q
    rw [nn q, jaL_inj k2 hw9', hW, ← jtKw_n hn, ← k1]
    refine ⟨fun z => ?_, fun z => ?_⟩
    · rwa [jaB_f z] at h
    · rwa [jaB_t z] at h
theorem sp_M_isSign {D : Nat} (hD : 1 ≤ D) {kk : Int32 → jaT → Prop} {σ : jaT} {S : jaS} {X : jtX} {i c : Nat} (hR : jmN S X i) (hc : c < 256) (hc3 : jtTc c = 3) (h : kk (jaB (jtK X i = c)) (jaU σ 20 S)) : jaDe D jy_M_isSign [jaMo, .inl (nI c)] (jaU σ 20 S) (jaKi kk) := by
  obtain ⟨⟨a, hX, cc, d, e, g, k, l, m, nn⟩, v⟩ := hR
  have ht := jtTc_lt (K := jtK X i)
  have hK := jtK_lt hX (i := i)
  obtain ⟨D, rfl, hD⟩ := jaSuc hD
  apply js_M_isSign
  simp (disch := first | omega | decide) only [jaU_eq, jaU_U, nI_add, pk_mul, jaIx_nI, vp_inT, true_and, and_true, ↓jaO0, ↓jaO1, nI_z, nI_z2, nI_z3, nI_z4, nI_z5, nI_lt', nI_le', nI_eq', jaUI_at, jaPt_eq, jaPt_ne, jaUI_o, jaUI_2, jaUL_at, jaUL_o, jaUL_1, jaB_z, jaB_1, ↓jaB_01, Classical.not_not, and_self, true_or, or_true, nI_11, Nat.reduceEqDiff, Nat.reduceAdd, Nat.reduceMul, Nat.add_zero, Nat.zero_add, Nat.mul_zero, not_true_eq_false, not_false_eq_true, false_implies, true_implies, g]
  refine ⟨fun q => ?_, fun q => ?_⟩
  · rwa [jaB_f (fun z => q (by rw [z]; exact hc3))] at h
  · rw [m q]
    simp (disch := first | omega | decide) only [jaU_eq, jaU_U, nI_add, pk_mul, jaIx_nI, vp_inT, true_and, and_true, ↓jaO0, ↓jaO1, nI_z, nI_z2, nI_z3, nI_z4, nI_z5, nI_lt', nI_le', nI_eq', jaUI_at, jaPt_eq, jaPt_ne, jaUI_o, jaUI_2, jaUL_at, jaUL_o, jaUL_1, jaB_z, jaB_1, ↓jaB_01, Classical.not_not, and_self, true_or, or_true, nI_11, Nat.reduceEqDiff, Nat.reduceAdd, Nat.reduceMul, Nat.add_zero, Nat.zero_add, Nat.mul_zero, not_true_eq_false, not_false_eq_true, false_implies, true_implies]
    refine ⟨fun z => ?_, fun z => ?_⟩
    · rwa [jaB_f z] at h
    · rwa [jaB_t z] at h
theorem sp_M_isName {D : Nat} (hD : 1 ≤ D) {kk : Int32 → jaT → Prop} {σ : jaT} {S : jaS} {X : jtX} {i : Nat} (hR : jmN S X i) (h : kk (jaB (jtK X i = 3)) (jaU σ 20 S)) : jaDe D jy_M_isName [jaMo] (jaU σ 20 S) (jaKi kk) := by
  obtain ⟨⟨a, hX, cc, d, e, g, k, l, m, nn⟩, v⟩ := hR
  have ht := jtTc_lt (K := jtK X i)
  obtain ⟨D, rfl, hD⟩ := jaSuc hD
  apply js_M_isName
  have L : ∀ n j P, j + n = 29 → (P ↔ jtTc (jtK X i) = 1 ∧ ∀ r, r < j → S.2 79 0 r ≠ S.2 70 0 20) → jc_M_isName_3 D kk (jaB P) (nI j) (jaU σ 20 S) := by
    intro n
    induction n with
    | zero =>
      intro j P hj hP
      apply jb_M_isName_3
      simp (disch := first | omega | decide) only [jaU_eq, jaU_U, nI_add, pk_mul, jaIx_nI, vp_inT, true_and, and_true, ↓jaO0, ↓jaO1, nI_z, nI_z2, nI_z3, nI_z4, nI_z5, nI_lt', nI_le', nI_eq', jaUI_at, jaPt_eq, jaPt_ne, jaUI_o, jaUI_2, jaUL_at, jaUL_o, jaUL_1, jaB_z, jaB_1, ↓jaB_01, Classical.not_not, and_self, true_or, or_true, nI_11, Nat.reduceEqDiff, Nat.reduceAdd, Nat.reduceMul, Nat.add_zero, Nat.zero_add, Nat.mul_zero, not_true_eq_false, not_false_eq_true, false_implies, true_implies]
      refine ⟨fun _ => ?_, fun q => absurd (by omega) q⟩
      have : P ↔ jtK X i = 3 := by
        rw [hP]
        constructor
        · rintro ⟨q, z⟩
          obtain ⟨k1, k2⟩ := jtW_k hX q
          rw [k1, jtKw_3]
          intro y
          obtain ⟨r, h1, h2⟩ := (v _ k2).mpr y
          exact z r (by omega) (by rw [h2, nn q])
        · intro q
          have q1 := jtTc_w.mpr (Or.inl q)
          obtain ⟨k1, k2⟩ := jtW_k hX q1
          refine ⟨q1, fun r h1 h2 => ?_⟩
          rw [k1, jtKw_3] at q
          exact q ((v _ k2).mp ⟨r, by omega, by rw [h2, nn q1]⟩)
      rwa [jaB_c this]
    | succ n ih =>
      intro j P hj hP
      have st : ∀ Q : Prop, (Q ↔ P ∧ S.2 79 0 j ≠ S.2 70 0 20) → jc_M_isName_3 D kk (jaB Q) (nI (j + 1)) (jaU σ 20 S) := fun Q hQ => by
        refine ih (j + 1) Q (by omega) ?_
        rw [hQ, hP]
        constructor
        · rintro ⟨⟨y1, y2⟩, y3⟩
          refine ⟨y1, fun r hr => ?_⟩
          by_cases er : r = j
          · rw [er]; exact y3
          · exact y2 r (by omega)
        · rintro ⟨y1, y2⟩
          exact ⟨⟨y1, fun r hr => y2 r (by omega)⟩, y2 j (by omega)⟩
      apply jb_M_isName_3
      simp (disch := first | omega | decide) only [jaU_eq, jaU_U, nI_add, pk_mul, jaIx_nI, vp_inT, true_and, and_true, ↓jaO0, ↓jaO1, nI_z, nI_z2, nI_z3, nI_z4, nI_z5, nI_lt', nI_le', nI_eq', jaUI_at, jaPt_eq, jaPt_ne, jaUI_o, jaUI_2, jaUL_at, jaUL_o, jaUL_1, jaB_z, jaB_1, ↓jaB_01, Classical.not_not, and_self, true_or, or_true, nI_11, Nat.reduceEqDiff, Nat.reduceAdd, Nat.reduceMul, Nat.add_zero, Nat.zero_add, Nat.mul_zero, not_true_eq_false, not_false_eq_true, false_implies, true_implies, lg_cmp_eq]
      refine ⟨fun q => absurd q (by omega), fun _ => ?_⟩
      refine ⟨fun z => ?_, fun z => ⟨fun z2 => ?_, fun z2 => ?_⟩⟩
      · have := st False ⟨fun y => y.elim, fun y => absurd y.1 z⟩
        rwa [jaB_f (fun y => y)] at this
      · have := st False ⟨fun y => y.elim, fun y => absurd z2.symm y.2⟩
        rwa [jaB_f (fun y => y)] at this
      · have := st True ⟨fun _ => ⟨z, fun y => z2 y.symm⟩, fun _ => trivial⟩
        rwa [jaB_t trivial] at this
  simp (disch := first | omega | decide) only [jaU_eq, jaU_U, nI_add, pk_mul, jaIx_nI, vp_inT, true_and, and_true, ↓jaO0, ↓jaO1, nI_z, nI_z2, nI_z3, nI_z4, nI_z5, nI_lt', nI_le', nI_eq', jaUI_at, jaPt_eq, jaPt_ne, jaUI_o, jaUI_2, jaUL_at, jaUL_o, jaUL_1, jaB_z, jaB_1, ↓jaB_01, Classical.not_not, and_self, true_or, or_true, nI_11, Nat.reduceEqDiff, Nat.reduceAdd, Nat.reduceMul, Nat.add_zero, Nat.zero_add, Nat.mul_zero, not_true_eq_false, not_false_eq_true, false_implies, true_implies, g]
  refine ⟨fun q => ?_, fun q => ?_⟩
  · have := L 29 0 False rfl ⟨fun y => y.elim, fun y => absurd y.1 q⟩
    rwa [jaB_f (fun y => y)] at this
  · have := L 29 0 True rfl ⟨fun _ => ⟨q, fun r hr => absurd hr (by omega)⟩, fun _ => trivial⟩
    rwa [jaB_t trivial] at this
end
