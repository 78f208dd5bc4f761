section
/-! the reference: tokens -/
/-- its tape is such a text -/
def jmT (S : jaS) (X : jtX) : Prop := (∀ j, j < 940 → S.1 71 0 j &&& nI 255 = nI (X.1 j)) ∧ S.1 70 0 3 = nI X.2.1 ∧ S.1 70 0 5 = nI X.2.2 ∧ X.2.2 ≤ 940 ∧ S.1 70 0 18 = nI 0
theorem jaFr.wl {A B : List Nat} {S S' : jaS} {j : Nat} {v : Int64} (h : jaFr A B S S') (hj : j ∈ B) : jaFr A B S (jaUL S' 70 0 j v) := by
  refine ⟨fun q h1 h2 => ?_, fun i h1 => ?_⟩
  · rw [jaUL_o h2, jaUL_1]
    exact h.1 q h1 h2
  · rw [jaUL_1]
    refine ⟨(h.2 i h1).1, ?_⟩
    rw [jaUL_at]
    show (if i = j then _ else _) = _
    rw [if_neg (fun e => h1 (by rw [e]; exact hj))]
    exact (h.2 i h1).2
theorem jaFr.lo {A B : List Nat} {S S' : jaS} {o j : Nat} {v : Int64} (h : jaFr A B S S') (ho : o ∈ A) (h7 : o ≠ 70) : jaFr A B S (jaUL S' o 0 j v) := by
  refine ⟨fun q h1 h2 => ?_, fun i h1 => ?_⟩
  · rw [jaUL_o (fun e => h1 (by rw [e]; exact ho)), jaUL_1]
    exact h.1 q h1 h2
  · rw [jaUL_1, jaUL_o (Ne.symm h7)]
    exact h.2 i h1
theorem jmT.f {A F : List Nat} {S S' : jaS} {X : jtX} (h : jmT S X) (f : jaFr A F S S') (h71 : 71 ∉ A) (h3 : 3 ∉ F) (h5 : 5 ∉ F) (h18 : 18 ∉ F) : jmT S' X :=
  ⟨fun j hj => by rw [f.s 71 h71 (by decide)]; exact h.1 j hj, (f.f 3 h3).trans h.2.1, (f.f 5 h5).trans h.2.2.1, h.2.2.2.1, (f.f 18 h18).trans h.2.2.2.2⟩
/-- its kinds -/
def jtTc (K : Nat) : Nat := if K = 1 then 0 else if K = 2 then 2 else if K = 3 ∨ 100 ≤ K then 1 else if K = 0 ∨ K = 46 then 4 else 3
/-- the i-th is at hand -/
def jmR (S : jaS) (X : jtX) (i : Nat) : Prop := jmT S X ∧ (∀ q, X.1 q < 256) ∧ X.2.1 ≤ 940 ∧ S.1 70 0 4 = nI (jtP X (i + 1)) ∧ jtP X (i + 1) ≤ X.2.1 ∧ S.1 70 0 14 = nI (jtTc (jtK X i)) ∧ S.1 70 0 15 = nI (jtAt X i) ∧ (jtK X i = 2 → S.1 70 0 17 = nI (jtV X i)) ∧ (jtTc (jtK X i) = 3 → S.1 70 0 17 = nI (jtK X i)) ∧ (jtTc (jtK X i) = 1 → S.2 70 0 20 = Int64.ofNat (jtW X i))
theorem sp_M_isSmall {D : Nat} (hD : 1 ≤ D) {kk : Int32 → jaT → Prop} {σ : jaT} {m : Nat} (hm : m < 256) (h : kk (jaB (jtL m)) σ) : jaDe D jy_M_isSmall [.inl (nI m)] σ (jaKi kk) := by
  obtain ⟨D, rfl, hD⟩ := jaSuc hD
  unfold jtL at h
  apply js_M_isSmall
  simp (disch := first | omega | decide) only [jaU_eq, jaU_U, nI_add, pk_mul, jaIx_nI, vp_inT, true_and, and_true, ↓jaO0, ↓jaO1, nI_z, nI_z2, nI_z3, nI_z4, nI_z5, nI_lt', nI_le', nI_eq', jaUI_at, jaPt_eq, jaPt_ne, jaUI_o, jaUI_2, jaUL_at, jaUL_o, jaUL_1, jaB_z, jaB_1, ↓jaB_01, Classical.not_not, and_self, true_or, or_true, nI_11, Nat.reduceEqDiff, Nat.reduceAdd, Nat.reduceMul, Nat.add_zero, Nat.zero_add, Nat.mul_zero, not_true_eq_false, not_false_eq_true, false_implies, true_implies]
  refine ⟨fun q => ?_, fun q => ⟨fun q2 => ?_, fun q2 => ?_⟩⟩
  · rwa [jaB_f (by omega)] at h
  · rwa [jaB_f (by omega)] at h
  · rwa [jaB_t (by omega)] at h
theorem sp_M_isDigit {D : Nat} (hD : 1 ≤ D) {kk : Int32 → jaT → Prop} {σ : jaT} {m : Nat} (hm : m < 256) (h : kk (jaB (jtD m)) σ) : jaDe D jy_M_isDigit [.inl (nI m)] σ (jaKi kk) := by
  obtain ⟨D, rfl, hD⟩ := jaSuc hD
  unfold jtD at h
  apply js_M_isDigit
  simp (disch := first | omega | decide) only [jaU_eq, jaU_U, nI_add, pk_mul, jaIx_nI, vp_inT, true_and, and_true, ↓jaO0, ↓jaO1, nI_z, nI_z2, nI_z3, nI_z4, nI_z5, nI_lt', nI_le', nI_eq', jaUI_at, jaPt_eq, jaPt_ne, jaUI_o, jaUI_2, jaUL_at, jaUL_o, jaUL_1, jaB_z, jaB_1, ↓jaB_01, Classical.not_not, and_self, true_or, or_true, nI_11, Nat.reduceEqDiff, Nat.reduceAdd, Nat.reduceMul, Nat.add_zero, Nat.zero_add, Nat.mul_zero, not_true_eq_false, not_false_eq_true, false_implies, true_implies]
  refine ⟨fun q => ?_, fun q => ⟨fun q2 => ?_, fun q2 => ?_⟩⟩
  · rwa [jaB_f (by omega)] at h
  · rwa [jaB_f (by omega)] at h
  · rwa [jaB_t (by omega)] at h
theorem sp_M_isSmall_n {D : Nat} (hD : 1 ≤ D) {kk : Int32 → jaT → Prop} {σ : jaT} (h : kk (nI 0) σ) : jaDe D jy_M_isSmall [.inl (-1)] σ (jaKi kk) := by
  obtain ⟨D, rfl, hD⟩ := jaSuc hD
  apply js_M_isSmall
  refine ⟨fun _ => ⟨Or.inl rfl, h⟩, fun q => absurd (by decide) q⟩
theorem sp_M_isDigit_n {D : Nat} (hD : 1 ≤ D) {kk : Int32 → jaT → Prop} {σ : jaT} (h : kk (nI 0) σ) : jaDe D jy_M_isDigit [.inl (-1)] σ (jaKi kk) := by
  obtain ⟨D, rfl, hD⟩ := jaSuc hD
  apply js_M_isDigit
  refine ⟨fun _ => ⟨Or.inl rfl, h⟩, fun q => absurd (by decide) q⟩
theorem sp_M_peek {D : Nat} (hD : 1 ≤ D) {kk : Int32 → jaT → Prop} {σ : jaT} {S : jaS} {X : jtX} {p : Nat} (hT : jmT S X) (hX : ∀ q, X.1 q < 256) (hl : X.2.1 ≤ 940) (hp : S.1 70 0 4 = nI p) (hp9 : p ≤ X.2.1) (h1 : p < X.2.1 → kk (nI (X.1 p)) (jaU σ 20 S)) (h0 : p = X.2.1 → kk (-1) (jaU σ 20 S)) : jaDe D jy_M_peek [jaMo] (jaU σ 20 S) (jaKi kk) := by
  obtain ⟨D, rfl, hD⟩ := jaSuc hD
  apply js_M_peek
  simp (disch := first | omega | decide) only [jaU_eq, jaU_U, nI_add, pk_mul, jaIx_nI, vp_inT, true_and, and_true, ↓jaO0, ↓jaO1, nI_z, nI_z2, nI_z3, nI_z4, nI_z5, nI_lt', nI_le', nI_eq', jaUI_at, jaPt_eq, jaPt_ne, jaUI_o, jaUI_2, jaUL_at, jaUL_o, jaUL_1, jaB_z, jaB_1, ↓jaB_01, Classical.not_not, and_self, true_or, or_true, nI_11, Nat.reduceEqDiff, Nat.reduceAdd, Nat.reduceMul, Nat.add_zero, Nat.zero_add, Nat.mul_zero, not_true_eq_false, not_false_eq_true, false_implies, true_implies, hp, hT.2.1]
  refine ⟨fun q => h0 (by omega), fun q => ?_⟩
  rw [hT.1 p (by omega)]
  exact ⟨vp_in_nI (by omega) (by decide), h1 (by omega)⟩
theorem jaL_sh {w c : Nat} (hw : w < 281474976710656) (hc : c < 256) : (Int64.ofNat w <<< (Int32.toInt64 (nI 8) &&& 63)) ||| Int32.toInt64 (nI c) = Int64.ofNat (w * 256 + c) := by
  have e : Int32.toInt64 (nI c) = Int64.ofNat c := by
    have := jaL_ma (w := 0) (c := c) (by omega)
    simpa using this
  have e1 := jaL_l ⟨8, by decide⟩
  simp only [] at e1
  rw [e]
  apply Int64.toBitVec_inj.mp
  rw [Int64.toBitVec_or, Int64.toBitVec_shiftLeft]
  show (BitVec.ofNat 64 w <<< ((Int32.toInt64 (nI 8) &&& 63).toBitVec.smod 64).toNat) ||| BitVec.ofNat 64 c = BitVec.ofNat 64 (w * 256 + c)
  rw [e1]
  apply BitVec.eq_of_toNat_eq
  rw [BitVec.toNat_or, BitVec.toNat_shiftLeft, BitVec.toNat_ofNat, BitVec.toNat_ofNat, BitVec.toNat_ofNat, Nat.mod_eq_of_lt (show w < 2 ^ 64 by omega), Nat.mod_eq_of_lt (show c < 2 ^ 64 by omega), Nat.mod_eq_of_lt (show w * 256 + c < 2 ^ 64 by omega), Nat.shiftLeft_eq, show (2 : Nat) ^ 8 = 256 from rfl, Nat.mod_eq_of_lt (show w * 256 < 2 ^ 64 by omega), show w * 256 = w <<< 8 by rw [Nat.shiftLeft_eq], Nat.shiftLeft_add_eq_or_of_lt (show c < 2 ^ 8 by omega)]
set_option maxHeartbeats 2000000 in
theorem sp_M_next {D : Nat} (hD : 3 ≤ D) {kk : jaT → Prop} {σ : jaT} {S : jaS} {X : jtX} {i : Nat} (hT : jmT S X) (hX : ∀ q, X.1 q < 256) (hl : X.2.1 ≤ 940) (hp : S.1 70 0 4 = nI (jtP X i)) (hp9 : jtP X i ≤ X.2.1) (h : ∀ S', jmR S' X i → jaFr [] [4, 14, 15, 16, 17, 20] S S' → kk (jaU σ 20 S')) : jaDe D jy_M_next [jaMo] (jaU σ 20 S) (jaKv kk) := by
  obtain ⟨D, rfl, hD⟩ := jaSuc hD
  have hm9 := hT.2.2.2.1
  obtain ⟨s1, s2, s3⟩ := jtSk_s X (jtP X i)
  apply js_M_next
  have sA : jtSk X (jtP X i) = jtA X i := rfl
  rw [sA] at s1 s2 s3
  have hAl : jtA X i ≤ X.2.1 := by
    rcases Nat.lt_or_ge (jtP X i) (jtA X i) with q | q
    · have := (s2 (jtA X i - 1) (by omega) (by omega)).1
      omega
    · omega
  have mT : ∀ S', jaFr [] [4, 14, 15, 16, 17, 20] S S' → jmT S' X := fun S' f => hT.f f (by decide) (by decide) (by decide) (by decide)
  -- a token that is one
  have hF4 : jtP X (i + 1) = jaIf1 (jtFi X (jtA X i)) (jtA X i) (jtE X (jtA X i)) := jtP_s
  have N10 : ∀ n p S' V, jtA X i < X.2.1 → ¬ jtFi X (jtA X i) → jtO (X.1 (jtA X i)) → p + n = jtRn X (jtA X i) → jtA X i ≤ p → S'.1 70 0 4 = nI p → S'.1 70 0 15 = nI (jtA X i) → S'.1 70 0 16 = nI (p - jtA X i) →
      (p - jtA X i ≤ 7 → S'.2 70 0 20 = Int64.ofNat (jtWv X (jtA X i) (p - jtA X i))) → ((∀ q, jtA X i ≤ q → q < p → jtD (X.1 q)) → p - jtA X i ≤ 3 → S'.1 70 0 17 = nI (jtNv X (jtA X i) (p - jtA X i))) → jaFr [] [4, 14, 15, 16, 17, 20] S S' →
      jc_M_next_10 D kk V (jaB (jtL (X.1 (jtA X i)))) (jaB (∀ q, jtA X i ≤ q → q < p → (jtL (X.1 q) ↔ jtL (X.1 (jtA X i))))) (jaU σ 20 S') := by
    intro n p S' V hA1 hnF hO
    obtain ⟨r1, r2, r3⟩ := jtRn_s X (jtA X i)
    have hE : jtP X (i + 1) = jtRn X (jtA X i) := by rw [hF4, jaIf1_f hnF]; exact jaIf1_t hO
    have hE2 := jtE_s hA1
    have hE3 : jtE X (jtA X i) = jtRn X (jtA X i) := jaIf1_t hO
    have hK : jtK X i = jtKa X (jtA X i) := jaIf1_f hnF
    have hAt : jtAt X i = jtA X i := jaIf1_f hnF
    have hKa : jtKa X (jtA X i) = _ := jaIf1_t hO
    have hnot : ∀ c, jtL c → jtD c → False := fun c h1 h2 => by unfold jtL at h1; unfold jtD at h2; omega
    have hVe : jtV X i = jtNv X (jtA X i) (jtRn X (jtA X i) - jtA X i) := rfl
    have hWe : jtW X i = jtWv X (jtA X i) (jtRn X (jtA X i) - jtA X i) := rfl
    have kw1 : ∀ w, jtKw w = 3 ∨ 100 ≤ jtKw w := by
      intro w
      have : ∀ (l : List Nat) (k : Nat), 100 ≤ k → jtKl l k w = 3 ∨ 100 ≤ jtKl l k w := by
        intro l
        induction l with
        | nil => intro k _; rw [jtKl]; exact Or.inl rfl
        | cons c l ih =>
          intro k hk
          rw [jtKl]
          by_cases q : c = w
          · rw [if_pos q]; exact Or.inr hk
          · rw [if_neg q]; exact ih (k + 1) (by omega)
      exact this _ _ (by decide)
    induction n generalizing p S' with
    | zero =>
      intro hn hp1 a a15 a16 aw an f
      have hpe : p = jtRn X (jtA X i) := by omega
      subst hpe
      have T := mT S' f
      -- what it is
      have fin : ∀ tc : Nat, tc = jtTc (jtK X i) → kk (jaU σ 20 (jaUI S' 70 0 14 (nI tc))) := by
        intro tc htc
        refine h _ ⟨mT _ (f.uf (by decide)), hX, hl, ?_, by rw [hE]; omega, ?_, ?_, fun q => ?_, fun q => ?_, fun q => ?_⟩ (f.uf (by decide))
        · rw [hE]
          simp (disch := first | omega | decide) only [jaU_eq, jaU_U, nI_add, pk_mul, jaIx_nI, vp_inT, true_and, and_true, ↓jaO0, ↓jaO1, nI_z, nI_z2, nI_z3, nI_z4, nI_z5, nI_lt', nI_le', nI_eq', jaUI_at, jaPt_eq, jaPt_ne, jaUI_o, jaUI_2, jaUL_at, jaUL_o, jaUL_1, jaB_z, jaB_1, ↓jaB_01, Classical.not_not, and_self, true_or, or_true, nI_11, Nat.reduceEqDiff, Nat.reduceAdd, Nat.reduceMul, Nat.add_zero, Nat.zero_add, Nat.mul_zero, not_true_eq_false, not_false_eq_true, false_implies, true_implies, a]
        · simp (disch := first | omega | decide) only [jaU_eq, jaU_U, nI_add, pk_mul, jaIx_nI, vp_inT, true_and, and_true, ↓jaO0, ↓jaO1, nI_z, nI_z2, nI_z3, nI_z4, nI_z5, nI_lt', nI_le', nI_eq', jaUI_at, jaPt_eq, jaPt_ne, jaUI_o, jaUI_2, jaUL_at, jaUL_o, jaUL_1, jaB_z, jaB_1, ↓jaB_01, Classical.not_not, and_self, true_or, or_true, nI_11, Nat.reduceEqDiff, Nat.reduceAdd, Nat.reduceMul, Nat.add_zero, Nat.zero_add, Nat.mul_zero, not_true_eq_false, not_false_eq_true, false_implies, true_implies]
          rw [htc]
        · rw [hAt]
          simp (disch := first | omega | decide) only [jaU_eq, jaU_U, nI_add, pk_mul, jaIx_nI, vp_inT, true_and, and_true, ↓jaO0, ↓jaO1, nI_z, nI_z2, nI_z3, nI_z4, nI_z5, nI_lt', nI_le', nI_eq', jaUI_at, jaPt_eq, jaPt_ne, jaUI_o, jaUI_2, jaUL_at, jaUL_o, jaUL_1, jaB_z, jaB_1, ↓jaB_01, Classical.not_not, and_self, true_or, or_true, nI_11, Nat.reduceEqDiff, Nat.reduceAdd, Nat.reduceMul, Nat.add_zero, Nat.zero_add, Nat.mul_zero, not_true_eq_false, not_false_eq_true, false_implies, true_implies, a15]
        · rw [hK, hKa] at q
          by_cases q1 : (∀ q, jtA X i ≤ q → q < jtRn X (jtA X i) → jtD (X.1 q)) ∧ jtRn X (jtA X i) ≤ jtA X i + 3
          · rw [hVe, ← an q1.1 (by omega)]
            simp (disch := first | omega | decide) only [jaU_eq, jaU_U, nI_add, pk_mul, jaIx_nI, vp_inT, true_and, and_true, ↓jaO0, ↓jaO1, nI_z, nI_z2, nI_z3, nI_z4, nI_z5, nI_lt', nI_le', nI_eq', jaUI_at, jaPt_eq, jaPt_ne, jaUI_o, jaUI_2, jaUL_at, jaUL_o, jaUL_1, jaB_z, jaB_1, ↓jaB_01, Classical.not_not, and_self, true_or, or_true, nI_11, Nat.reduceEqDiff, Nat.reduceAdd, Nat.reduceMul, Nat.add_zero, Nat.zero_add, Nat.mul_zero, not_true_eq_false, not_false_eq_true, false_implies, true_implies]
          · rw [jaIf1_f q1] at q
            by_cases q2 : (∀ q, jtA X i ≤ q → q < jtRn X (jtA X i) → jtL (X.1 q)) ∧ jtRn X (jtA X i) ≤ jtA X i + 7
            · rw [jaIf1_t q2] at q
              have := kw1 (jtWv X (jtA X i) (jtRn X (jtA X i) - jtA X i))
              omega
            · rw [jaIf1_f q2] at q
              exact absurd q (by decide)
        · rw [hK, hKa] at q
          by_cases q1 : (∀ q, jtA X i ≤ q → q < jtRn X (jtA X i) → jtD (X.1 q)) ∧ jtRn X (jtA X i) ≤ jtA X i + 3
          · rw [jaIf1_t q1] at q
            exact absurd q (by decide)
          · rw [jaIf1_f q1] at q
            by_cases q2 : (∀ q, jtA X i ≤ q → q < jtRn X (jtA X i) → jtL (X.1 q)) ∧ jtRn X (jtA X i) ≤ jtA X i + 7
            · rw [jaIf1_t q2] at q
              have := kw1 (jtWv X (jtA X i) (jtRn X (jtA X i) - jtA X i))
              unfold jtTc at q
              rw [if_neg (by omega), if_neg (by omega), if_pos this] at q
              exact absurd q (by decide)
            · rw [jaIf1_f q2] at q
              exact absurd q (by decide)
        · rw [hK, hKa] at q
          by_cases q1 : (∀ q, jtA X i ≤ q → q < jtRn X (jtA X i) → jtD (X.1 q)) ∧ jtRn X (jtA X i) ≤ jtA X i + 3
          · rw [jaIf1_t q1] at q
            exact absurd q (by decide)
          · rw [jaIf1_f q1] at q
            by_cases q2 : (∀ q, jtA X i ≤ q → q < jtRn X (jtA X i) → jtL (X.1 q)) ∧ jtRn X (jtA X i) ≤ jtA X i + 7
            · rw [hWe]
              exact aw (by omega)
            · rw [jaIf1_f q2] at q
              exact absurd q (by decide)
      have sm : (∀ q, jtA X i ≤ q → q < jtRn X (jtA X i) → (jtL (X.1 q) ↔ jtL (X.1 (jtA X i)))) ↔ (jtL (X.1 (jtA X i)) ∧ ∀ q, jtA X i ≤ q → q < jtRn X (jtA X i) → jtL (X.1 q)) ∨ (¬ jtL (X.1 (jtA X i)) ∧ ∀ q, jtA X i ≤ q → q < jtRn X (jtA X i) → jtD (X.1 q)) := by
        constructor
        · intro z
          by_cases y : jtL (X.1 (jtA X i))
          · exact Or.inl ⟨y, fun q h1 h2 => (z q h1 h2).mpr y⟩
          · exact Or.inr ⟨y, fun q h1 h2 => ((r2 q h1 h2).2).resolve_left (fun w => y ((z q h1 h2).mp w))⟩
        · rintro (⟨y, z⟩ | ⟨y, z⟩) q h1 h2
          · exact ⟨fun _ => y, fun _ => z q h1 h2⟩
          · exact ⟨fun w => absurd (z q h1 h2) (hnot _ w), fun w => absurd w y⟩
      -- the judgement
      have J : (jaB (∀ q, jtA X i ≤ q → q < jtRn X (jtA X i) → (jtL (X.1 q) ↔ jtL (X.1 (jtA X i)))) = 0 → jc_M_next_19 D kk V (jaB (jtL (X.1 (jtA X i)))) (jaB (∀ q, jtA X i ≤ q → q < jtRn X (jtA X i) → (jtL (X.1 q) ↔ jtL (X.1 (jtA X i))))) (jaU σ 20 S')) ∧
          (¬ jaB (∀ q, jtA X i ≤ q → q < jtRn X (jtA X i) → (jtL (X.1 q) ↔ jtL (X.1 (jtA X i)))) = 0 → (jaB (jtL (X.1 (jtA X i))) = 0 → jc_M_next_18 D kk V (jaB (jtL (X.1 (jtA X i)))) (jaB (∀ q, jtA X i ≤ q → q < jtRn X (jtA X i) → (jtL (X.1 q) ↔ jtL (X.1 (jtA X i))))) (nI (jtRn X (jtA X i) - jtA X i)) (nI 3) (jaU σ 20 S')) ∧
            (¬ jaB (jtL (X.1 (jtA X i))) = 0 → jc_M_next_18 D kk V (jaB (jtL (X.1 (jtA X i)))) (jaB (∀ q, jtA X i ≤ q → q < jtRn X (jtA X i) → (jtL (X.1 q) ↔ jtL (X.1 (jtA X i))))) (nI (jtRn X (jtA X i) - jtA X i)) (nI 7) (jaU σ 20 S'))) := by
        generalize hx3 : jaB (∀ q, jtA X i ≤ q → q < jtRn X (jtA X i) → (jtL (X.1 q) ↔ jtL (X.1 (jtA X i)))) = x3
        have e3 : (x3 = 0) = ¬ (∀ q, jtA X i ≤ q → q < jtRn X (jtA X i) → (jtL (X.1 q) ↔ jtL (X.1 (jtA X i)))) := by rw [← hx3]; exact jaB_z
        have nL : jtKa X (jtA X i) = 0 → jc_M_next_19 D kk V (jaB (jtL (X.1 (jtA X i)))) x3 (jaU σ 20 S') := fun z => by
          apply jb_M_next_19
          apply jb_M_next_22
          simp only [jaU_eq, jaU_U]
          exact fin 4 (by rw [hK, z]; rfl)
        simp only [e3, jaB_z, Classical.not_not]
        refine ⟨fun z => nL ?_, fun z => ⟨fun z2 => ?_, fun z2 => ?_⟩⟩
        · rw [hKa, jaIf1_f (fun y => z (sm.mpr (Or.inr ⟨fun w => hnot _ w (y.1 _ (Nat.le_refl _) (by omega)), y.1⟩))), jaIf1_f (fun y => z (sm.mpr (Or.inl ⟨y.1 _ (Nat.le_refl _) (by omega), y.1⟩)))]
        · have hd := (sm.mp z).elim (fun y => absurd y.1 z2) (fun y => y.2)
          apply jb_M_next_18
          simp (disch := first | omega | decide) only [jaU_eq, jaU_U, nI_add, pk_mul, jaIx_nI, vp_inT, true_and, and_true, ↓jaO0, ↓jaO1, nI_z, nI_z2, nI_z3, nI_z4, nI_z5, nI_lt', nI_le', nI_eq', jaUI_at, jaPt_eq, jaPt_ne, jaUI_o, jaUI_2, jaUL_at, jaUL_o, jaUL_1, jaB_z, jaB_1, ↓jaB_01, Classical.not_not, and_self, true_or, or_true, nI_11, Nat.reduceEqDiff, Nat.reduceAdd, Nat.reduceMul, Nat.add_zero, Nat.zero_add, Nat.mul_zero, not_true_eq_false, not_false_eq_true, false_implies, true_implies]
          refine ⟨fun z3 => ⟨fun _ => ?_, fun z4 => absurd z4 z2⟩, fun z3 => nL ?_⟩
          · apply jb_M_next_22
            simp only [jaU_eq, jaU_U]
            refine fin 2 ?_
            rw [hK, hKa, jaIf1_t ⟨hd, by omega⟩]
            rfl
          · rw [hKa, jaIf1_f (fun y => by omega), jaIf1_f (fun y => z2 (y.1 _ (Nat.le_refl _) (by omega)))]
        · have hd := (sm.mp z).elim (fun y => y.2) (fun y => absurd z2 y.1)
          apply jb_M_next_18
          simp (disch := first | omega | decide) only [jaU_eq, jaU_U, nI_add, pk_mul, jaIx_nI, vp_inT, true_and, and_true, ↓jaO0, ↓jaO1, nI_z, nI_z2, nI_z3, nI_z4, nI_z5, nI_lt', nI_le', nI_eq', jaUI_at, jaPt_eq, jaPt_ne, jaUI_o, jaUI_2, jaUL_at, jaUL_o, jaUL_1, jaB_z, jaB_1, ↓jaB_01, Classical.not_not, and_self, true_or, or_true, nI_11, Nat.reduceEqDiff, Nat.reduceAdd, Nat.reduceMul, Nat.add_zero, Nat.zero_add, Nat.mul_zero, not_true_eq_false, not_false_eq_true, false_implies, true_implies]
          have nd : ¬ ((∀ q, jtA X i ≤ q → q < jtRn X (jtA X i) → jtD (X.1 q)) ∧ jtRn X (jtA X i) ≤ jtA X i + 3) := fun y => hnot _ z2 (y.1 _ (Nat.le_refl _) (by omega))
          refine ⟨fun z3 => ⟨fun z4 => absurd z2 z4, fun _ => ?_⟩, fun z3 => nL ?_⟩
          · apply jb_M_next_22
            simp only [jaU_eq, jaU_U]
            refine fin 1 ?_
            have := kw1 (jtWv X (jtA X i) (jtRn X (jtA X i) - jtA X i))
            rw [hK, hKa, jaIf1_f nd, jaIf1_t ⟨hd, by omega⟩]
            unfold jtTc
            rw [if_neg (by omega), if_neg (by omega), if_pos this]
          · rw [hKa, jaIf1_f nd, jaIf1_f (fun y => by omega)]
      simp only [jaB_z, Classical.not_not] at J
      apply jb_M_next_10
      refine sp_M_peek (by omega) T hX hl a (by omega) (fun z => ?_) (fun z => ?_)
      · have hno : ¬ jtO (X.1 (jtRn X (jtA X i))) := fun w => r3 ⟨z, w⟩
        refine sp_M_isSmall (by omega) (hX _) ?_
        simp (disch := first | omega | decide) only [jaU_eq, jaU_U, nI_add, pk_mul, jaIx_nI, vp_inT, true_and, and_true, ↓jaO0, ↓jaO1, nI_z, nI_z2, nI_z3, nI_z4, nI_z5, nI_lt', nI_le', nI_eq', jaUI_at, jaPt_eq, jaPt_ne, jaUI_o, jaUI_2, jaUL_at, jaUL_o, jaUL_1, jaB_z, jaB_1, ↓jaB_01, Classical.not_not, and_self, true_or, or_true, nI_11, Nat.reduceEqDiff, Nat.reduceAdd, Nat.reduceMul, Nat.add_zero, Nat.zero_add, Nat.mul_zero, not_true_eq_false, not_false_eq_true, false_implies, true_implies]
        refine ⟨fun w => absurd (Or.inl w) hno, fun _ => ?_⟩
        refine sp_M_peek (by omega) T hX hl a (by omega) (fun _ => ?_) (fun z2 => absurd z2 (by omega))
        refine sp_M_isDigit (by omega) (hX _) ?_
        simp only [jaU_eq, a16]
        simp only [jaB_z (p := jtD _), Classical.not_not]
        exact ⟨fun _ => J, fun w => absurd (Or.inr w) hno⟩
      · refine sp_M_isSmall_n (by omega) ?_
        simp (disch := first | omega | decide) only [jaU_eq, jaU_U, nI_add, pk_mul, jaIx_nI, vp_inT, true_and, and_true, ↓jaO0, ↓jaO1, nI_z, nI_z2, nI_z3, nI_z4, nI_z5, nI_lt', nI_le', nI_eq', jaUI_at, jaPt_eq, jaPt_ne, jaUI_o, jaUI_2, jaUL_at, jaUL_o, jaUL_1, jaB_z, jaB_1, ↓jaB_01, Classical.not_not, and_self, true_or, or_true, nI_11, Nat.reduceEqDiff, Nat.reduceAdd, Nat.reduceMul, Nat.add_zero, Nat.zero_add, Nat.mul_zero, not_true_eq_false, not_false_eq_true, false_implies, true_implies]
        refine sp_M_peek (by omega) T hX hl a (by omega) (fun z2 => absurd z2 (by omega)) (fun _ => ?_)
        refine sp_M_isDigit_n (by omega) ?_
        simp only [jaU_eq, a16]
        exact ⟨fun _ => J, fun w => absurd rfl w⟩
    | succ n ih =>
      intro hn hp1 a a15 a16 aw an f
      have T := mT S' f
      obtain ⟨o1, o2⟩ := r2 p hp1 (by omega)
      have hc := hX p
      -- one more sign
      have V15 : ∀ S2, S2.1 70 0 4 = nI p → S2.1 70 0 15 = nI (jtA X i) → S2.1 70 0 16 = nI (p - jtA X i) → (p + 1 - jtA X i ≤ 7 → S2.2 70 0 20 = Int64.ofNat (jtWv X (jtA X i) (p + 1 - jtA X i))) → ((∀ q, jtA X i ≤ q → q < p + 1 → jtD (X.1 q)) → p + 1 - jtA X i ≤ 3 → S2.1 70 0 17 = nI (jtNv X (jtA X i) (p + 1 - jtA X i))) → jaFr [] [4, 14, 15, 16, 17, 20] S S2 → jc_M_next_15 D kk V (jaB (jtL (X.1 (jtA X i)))) (jaB (∀ q, jtA X i ≤ q → q < p + 1 → (jtL (X.1 q) ↔ jtL (X.1 (jtA X i))))) (jaU σ 20 S2) := by
        intro S2 b4 b15 b16 bw bn f2
        apply jb_M_next_15
        simp only [jaU_eq, jaU_U, jaUI_at, jaPt_eq, jaPt_ne (show (4 : Nat) ≠ 16 by decide), b16, b4, nI_add]
        refine ih (p + 1) _ (by omega) (by omega) (by simp (disch := first | omega | decide) only [jaU_eq, jaU_U, nI_add, pk_mul, jaIx_nI, vp_inT, true_and, and_true, ↓jaO0, ↓jaO1, nI_z, nI_z2, nI_z3, nI_z4, nI_z5, nI_lt', nI_le', nI_eq', jaUI_at, jaPt_eq, jaPt_ne, jaUI_o, jaUI_2, jaUL_at, jaUL_o, jaUL_1, jaB_z, jaB_1, ↓jaB_01, Classical.not_not, and_self, true_or, or_true, nI_11, Nat.reduceEqDiff, Nat.reduceAdd, Nat.reduceMul, Nat.add_zero, Nat.zero_add, Nat.mul_zero, not_true_eq_false, not_false_eq_true, false_implies, true_implies]) (by simp (disch := first | omega | decide) only [jaU_eq, jaU_U, nI_add, pk_mul, jaIx_nI, vp_inT, true_and, and_true, ↓jaO0, ↓jaO1, nI_z, nI_z2, nI_z3, nI_z4, nI_z5, nI_lt', nI_le', nI_eq', jaUI_at, jaPt_eq, jaPt_ne, jaUI_o, jaUI_2, jaUL_at, jaUL_o, jaUL_1, jaB_z, jaB_1, ↓jaB_01, Classical.not_not, and_self, true_or, or_true, nI_11, Nat.reduceEqDiff, Nat.reduceAdd, Nat.reduceMul, Nat.add_zero, Nat.zero_add, Nat.mul_zero, not_true_eq_false, not_false_eq_true, false_implies, true_implies, b15]) ?_ (fun z => ?_) (fun z1 z2 => ?_) ((f2.uf (by decide)).uf (by decide))
        · simp (disch := first | omega | decide) only [jaU_eq, jaU_U, nI_add, pk_mul, jaIx_nI, vp_inT, true_and, and_true, ↓jaO0, ↓jaO1, nI_z, nI_z2, nI_z3, nI_z4, nI_z5, nI_lt', nI_le', nI_eq', jaUI_at, jaPt_eq, jaPt_ne, jaUI_o, jaUI_2, jaUL_at, jaUL_o, jaUL_1, jaB_z, jaB_1, ↓jaB_01, Classical.not_not, and_self, true_or, or_true, nI_11, Nat.reduceEqDiff, Nat.reduceAdd, Nat.reduceMul, Nat.add_zero, Nat.zero_add, Nat.mul_zero, not_true_eq_false, not_false_eq_true, false_implies, true_implies]
          rw [show p + 1 - jtA X i = p - jtA X i + 1 by omega]
        · rw [jaUI_2, jaUI_2]
          exact bw z
        · rw [jaUI_at, jaPt_ne (by decide), jaUI_at, jaPt_ne (by decide)]
          exact bn z1 z2
      have V14 : ∀ S2, S2.1 70 0 4 = nI p → S2.1 70 0 15 = nI (jtA X i) → S2.1 70 0 16 = nI (p - jtA X i) → (p + 1 - jtA X i ≤ 7 → S2.2 70 0 20 = Int64.ofNat (jtWv X (jtA X i) (p + 1 - jtA X i))) → ((∀ q, jtA X i ≤ q → q < p → jtD (X.1 q)) → p - jtA X i ≤ 3 → S2.1 70 0 17 = nI (jtNv X (jtA X i) (p - jtA X i))) → jaFr [] [4, 14, 15, 16, 17, 20] S S2 → jc_M_next_14 D kk V (jaB (jtL (X.1 (jtA X i)))) (jaB (∀ q, jtA X i ≤ q → q < p + 1 → (jtL (X.1 q) ↔ jtL (X.1 (jtA X i))))) (jaU σ 20 S2) := by
        intro S2 b4 b15 b16 bw bn f2
        apply jb_M_next_14
        simp (disch := first | omega | decide) only [jaU_eq, jaU_U, nI_add, pk_mul, jaIx_nI, vp_inT, true_and, and_true, ↓jaO0, ↓jaO1, nI_z, nI_z2, nI_z3, nI_z4, nI_z5, nI_lt', nI_le', nI_eq', jaUI_at, jaPt_eq, jaPt_ne, jaUI_o, jaUI_2, jaUL_at, jaUL_o, jaUL_1, jaB_z, jaB_1, ↓jaB_01, Classical.not_not, and_self, true_or, or_true, nI_11, Nat.reduceEqDiff, Nat.reduceAdd, Nat.reduceMul, Nat.add_zero, Nat.zero_add, Nat.mul_zero, not_true_eq_false, not_false_eq_true, false_implies, true_implies, b16]
        refine ⟨fun z => V15 S2 b4 b15 b16 bw (fun _ z2 => absurd z2 (by omega)) f2, fun z => ?_⟩
        refine sp_M_peek (by omega) (mT S2 f2) hX hl b4 (by omega) (fun _ => ?_) (fun z => absurd z (by omega))
        simp only [jaU_eq, jaU_U]
        refine V15 _ (by simp (disch := first | omega | decide) only [jaU_eq, jaU_U, nI_add, pk_mul, jaIx_nI, vp_inT, true_and, and_true, ↓jaO0, ↓jaO1, nI_z, nI_z2, nI_z3, nI_z4, nI_z5, nI_lt', nI_le', nI_eq', jaUI_at, jaPt_eq, jaPt_ne, jaUI_o, jaUI_2, jaUL_at, jaUL_o, jaUL_1, jaB_z, jaB_1, ↓jaB_01, Classical.not_not, and_self, true_or, or_true, nI_11, Nat.reduceEqDiff, Nat.reduceAdd, Nat.reduceMul, Nat.add_zero, Nat.zero_add, Nat.mul_zero, not_true_eq_false, not_false_eq_true, false_implies, true_implies, b4]) (by simp (disch := first | omega | decide) only [jaU_eq, jaU_U, nI_add, pk_mul, jaIx_nI, vp_inT, true_and, and_true, ↓jaO0, ↓jaO1, nI_z, nI_z2, nI_z3, nI_z4, nI_z5, nI_lt', nI_le', nI_eq', jaUI_at, jaPt_eq, jaPt_ne, jaUI_o, jaUI_2, jaUL_at, jaUL_o, jaUL_1, jaB_z, jaB_1, ↓jaB_01, Classical.not_not, and_self, true_or, or_true, nI_11, Nat.reduceEqDiff, Nat.reduceAdd, Nat.reduceMul, Nat.add_zero, Nat.zero_add, Nat.mul_zero, not_true_eq_false, not_false_eq_true, false_implies, true_implies, b15]) (by simp (disch := first | omega | decide) only [jaU_eq, jaU_U, nI_add, pk_mul, jaIx_nI, vp_inT, true_and, and_true, ↓jaO0, ↓jaO1, nI_z, nI_z2, nI_z3, nI_z4, nI_z5, nI_lt', nI_le', nI_eq', jaUI_at, jaPt_eq, jaPt_ne, jaUI_o, jaUI_2, jaUL_at, jaUL_o, jaUL_1, jaB_z, jaB_1, ↓jaB_01, Classical.not_not, and_self, true_or, or_true, nI_11, Nat.reduceEqDiff, Nat.reduceAdd, Nat.reduceMul, Nat.add_zero, Nat.zero_add, Nat.mul_zero, not_true_eq_false, not_false_eq_true, false_implies, true_implies, b16]) (fun z2 => by rw [jaUI_2]; exact bw z2) (fun z2 z3 => ?_) (f2.uf (by decide))
        have h48 := (z2 p hp1 (by omega)).1
        rw [bn (fun q h1 h2 => z2 q h1 (by omega)) (by omega), jaUI_at, jaPt_eq, show p + 1 - jtA X i = p - jtA X i + 1 by omega, jtNv, show jtA X i + (p - jtA X i) = p by omega, pk_mul, nI_add, nI_sub (by omega)]
        congr 1
        omega
      have V13 : ∀ xs, jc_M_next_13 D kk V (jaB (jtL (X.1 (jtA X i)))) xs (jaB (∀ q, jtA X i ≤ q → q < p + 1 → (jtL (X.1 q) ↔ jtL (X.1 (jtA X i))))) (jaU σ 20 S') := by
        intro xs
        apply jb_M_next_13
        simp (disch := first | omega | decide) only [jaU_eq, jaU_U, nI_add, pk_mul, jaIx_nI, vp_inT, true_and, and_true, ↓jaO0, ↓jaO1, nI_z, nI_z2, nI_z3, nI_z4, nI_z5, nI_lt', nI_le', nI_eq', jaUI_at, jaPt_eq, jaPt_ne, jaUI_o, jaUI_2, jaUL_at, jaUL_o, jaUL_1, jaB_z, jaB_1, ↓jaB_01, Classical.not_not, and_self, true_or, or_true, nI_11, Nat.reduceEqDiff, Nat.reduceAdd, Nat.reduceMul, Nat.add_zero, Nat.zero_add, Nat.mul_zero, not_true_eq_false, not_false_eq_true, false_implies, true_implies, a16]
        refine ⟨fun z => V14 S' a a15 a16 (fun z2 => absurd z2 (by omega)) an f, fun z => ?_⟩
        refine sp_M_peek (by omega) T hX hl a (by omega) (fun _ => ?_) (fun z => absurd z (by omega))
        simp only [jaU_eq, jaU_U]
        refine V14 _ (by rw [jaUL_1]; exact a) (by rw [jaUL_1]; exact a15) (by rw [jaUL_1]; exact a16) (fun z2 => ?_) (fun z1 z2 => by rw [jaUL_1]; exact an z1 z2) (f.wl (by decide))
        have hwv := jtWv_lt hX (a := jtA X i) (p - jtA X i)
        have h6 : 256 ^ (p - jtA X i) ≤ 256 ^ 6 := Nat.pow_le_pow_right (by decide) (by omega)
        have h7 : (256 ^ 6 : Nat) = 281474976710656 := by decide
        rw [aw (by omega), jaL_sh (by omega) hc, jaUL_at, show p + 1 - jtA X i = p - jtA X i + 1 by omega, jtWv, show jtA X i + (p - jtA X i) = p by omega]
        exact if_pos rfl
      have V12 : ¬ (∀ q, jtA X i ≤ q → q < p + 1 → (jtL (X.1 q) ↔ jtL (X.1 (jtA X i)))) → ∀ x3, jc_M_next_12 D kk V (jaB (jtL (X.1 (jtA X i)))) x3 (jaU σ 20 S') := by
        intro z x3
        apply jb_M_next_12
        have := V13 x3
        rwa [jaB_f z] at this
      have V11 : jc_M_next_11 D kk V (jaB (jtL (X.1 (jtA X i)))) (jaB (∀ q, jtA X i ≤ q → q < p → (jtL (X.1 q) ↔ jtL (X.1 (jtA X i))))) (jaU σ 20 S') := by
        apply jb_M_next_11
        refine ⟨fun z => ?_, fun z => ?_⟩
        · rw [jaB_z] at z
          exact V12 (fun w => z (fun q h1 h2 => w q h1 (by omega))) _
        · rw [jaB_z, Classical.not_not] at z
          refine sp_M_peek (by omega) T hX hl a (by omega) (fun _ => ?_) (fun z => absurd z (by omega))
          refine sp_M_isSmall (by omega) hc ?_
          refine ⟨fun z2 => V12 (fun w => z2 (jaB_c (w p hp1 (by omega)))) _, fun z2 => ?_⟩
          have hall : ∀ q, jtA X i ≤ q → q < p + 1 → (jtL (X.1 q) ↔ jtL (X.1 (jtA X i))) := fun q h1 h2 => by
            by_cases e : q = p
            · rw [e]
              constructor
              · intro y
                rw [jaB_t y] at z2
                have := jaB_1 (p := jtL (X.1 (jtA X i)))
                rw [← this]
                exact z2.symm
              · intro y
                rw [jaB_t y] at z2
                have := jaB_1 (p := jtL (X.1 p))
                rw [← this]
                exact z2
            · exact z q h1 (by omega)
          have := V13 (jaB (∀ q, jtA X i ≤ q → q < p → (jtL (X.1 q) ↔ jtL (X.1 (jtA X i)))))
          rwa [jaB_t hall] at this
      apply jb_M_next_10
      refine sp_M_peek (by omega) T hX hl a (by omega) (fun _ => ?_) (fun z => absurd z (by omega))
      refine sp_M_isSmall (by omega) hc ?_
      refine ⟨fun _ => V11, fun z => ?_⟩
      refine sp_M_peek (by omega) T hX hl a (by omega) (fun _ => ?_) (fun z => absurd z (by omega))
      refine sp_M_isDigit (by omega) hc ?_
      rw [jaB_z] at z
      refine ⟨fun z2 => ?_, fun _ => V11⟩
      rw [jaB_z] at z2
      exact absurd (o2.resolve_left z) z2
  -- behind the blanks
  have C : ∀ S', S'.1 70 0 4 = nI (jtA X i) → jaFr [] [4, 14, 15, 16, 17, 20] S S' →
      ((S'.1 70 0 3 ≤ S'.1 70 0 5 → jc_M_next_4 D kk (jaU σ 20 (jaUI (jaUI S' 70 0 15 (nI (jtA X i))) 70 0 16 (nI 0)))) ∧ (¬ S'.1 70 0 3 ≤ S'.1 70 0 5 → (nI (jtA X i) < S'.1 70 0 5 → jc_M_next_4 D kk (jaU σ 20 (jaUI (jaUI S' 70 0 15 (nI (jtA X i))) 70 0 16 (nI 0)))) ∧ (¬ nI (jtA X i) < S'.1 70 0 5 → kk (jaU σ 20 (jaUI (jaUI (jaUI (jaUI S' 70 0 15 (nI (jtA X i))) 70 0 16 (nI 0)) 70 0 15 (S'.1 70 0 5)) 70 0 14 (nI 4)))))) := by
    intro S' a f
    have T := mT S' f
    rw [T.2.1, T.2.2.1]
    have f1 : jaFr [] [4, 14, 15, 16, 17, 20] S (jaUI (jaUI S' 70 0 15 (nI (jtA X i))) 70 0 16 (nI 0)) := (f.uf (by decide)).uf (by decide)
    have b4 : (jaUI (jaUI S' 70 0 15 (nI (jtA X i))) 70 0 16 (nI 0)).1 70 0 4 = nI (jtA X i) := by simp (disch := first | omega | decide) only [jaU_eq, jaU_U, nI_add, pk_mul, jaIx_nI, vp_inT, true_and, and_true, ↓jaO0, ↓jaO1, nI_z, nI_z2, nI_z3, nI_z4, nI_z5, nI_lt', nI_le', nI_eq', jaUI_at, jaPt_eq, jaPt_ne, jaUI_o, jaUI_2, jaUL_at, jaUL_o, jaUL_1, jaB_z, jaB_1, ↓jaB_01, Classical.not_not, and_self, true_or, or_true, nI_11, Nat.reduceEqDiff, Nat.reduceAdd, Nat.reduceMul, Nat.add_zero, Nat.zero_add, Nat.mul_zero, not_true_eq_false, not_false_eq_true, false_implies, true_implies, a]
    have b15 : (jaUI (jaUI S' 70 0 15 (nI (jtA X i))) 70 0 16 (nI 0)).1 70 0 15 = nI (jtA X i) := by simp (disch := first | omega | decide) only [jaU_eq, jaU_U, nI_add, pk_mul, jaIx_nI, vp_inT, true_and, and_true, ↓jaO0, ↓jaO1, nI_z, nI_z2, nI_z3, nI_z4, nI_z5, nI_lt', nI_le', nI_eq', jaUI_at, jaPt_eq, jaPt_ne, jaUI_o, jaUI_2, jaUL_at, jaUL_o, jaUL_1, jaB_z, jaB_1, ↓jaB_01, Classical.not_not, and_self, true_or, or_true, nI_11, Nat.reduceEqDiff, Nat.reduceAdd, Nat.reduceMul, Nat.add_zero, Nat.zero_add, Nat.mul_zero, not_true_eq_false, not_false_eq_true, false_implies, true_implies]
    have b16 : (jaUI (jaUI S' 70 0 15 (nI (jtA X i))) 70 0 16 (nI 0)).1 70 0 16 = nI 0 := by simp (disch := first | omega | decide) only [jaU_eq, jaU_U, nI_add, pk_mul, jaIx_nI, vp_inT, true_and, and_true, ↓jaO0, ↓jaO1, nI_z, nI_z2, nI_z3, nI_z4, nI_z5, nI_lt', nI_le', nI_eq', jaUI_at, jaPt_eq, jaPt_ne, jaUI_o, jaUI_2, jaUL_at, jaUL_o, jaUL_1, jaB_z, jaB_1, ↓jaB_01, Classical.not_not, and_self, true_or, or_true, nI_11, Nat.reduceEqDiff, Nat.reduceAdd, Nat.reduceMul, Nat.add_zero, Nat.zero_add, Nat.mul_zero, not_true_eq_false, not_false_eq_true, false_implies, true_implies]
    generalize jaUI (jaUI S' 70 0 15 (nI (jtA X i))) 70 0 16 (nI 0) = S1 at *
    have hlim : nI X.2.2 = S1.1 70 0 5 := ((mT S1 f1).2.2.1).symm
    have N4 : (jtA X i < X.2.1 ∧ ¬ jtFi X (jtA X i)) ∨ (jtA X i = X.2.1 ∧ X.2.1 ≤ X.2.2) → jc_M_next_4 D kk (jaU σ 20 S1) := by
      intro hc
      have T1 := mT S1 f1
      apply jb_M_next_4
      refine sp_M_peek (by omega) T1 hX hl b4 (by omega) (fun z => ?_) (fun z => ?_)
      · have hnF : ¬ jtFi X (jtA X i) := hc.elim (fun y => y.2) (fun y => by omega)
        have hx := hX (jtA X i)
        have hK : jtK X i = jtKa X (jtA X i) := jaIf1_f hnF
        have hAt : jtAt X i = jtA X i := jaIf1_f hnF
        have N9 : jtO (X.1 (jtA X i)) → jc_M_next_9 D kk (nI (X.1 (jtA X i))) (jaU σ 20 S1) := by
          intro hO
          apply jb_M_next_9
          refine sp_M_isSmall (by omega) hx ?_
          simp only [jaU_eq, jaU_U]
          obtain ⟨r1, -, -⟩ := jtRn_s X (jtA X i)
          have := N10 (jtRn X (jtA X i) - jtA X i) (jtA X i) (jaUI (jaUL S1 70 0 20 (Int64.ofNat 0)) 70 0 17 (nI 0)) (nI (X.1 (jtA X i))) z hnF hO (by omega) (Nat.le_refl _) (by rw [jaUI_at, jaPt_ne (by decide), jaUL_1]; exact b4) (by rw [jaUI_at, jaPt_ne (by decide), jaUL_1]; exact b15) (by rw [jaUI_at, jaPt_ne (by decide), jaUL_1, Nat.sub_self]; exact b16) (fun _ => by rw [jaUI_2, jaUL_at, Nat.sub_self, jtWv]; exact if_pos rfl) (fun _ _ => by rw [jaUI_at, jaPt_eq, Nat.sub_self, jtNv]) ((f1.wl (by decide)).uf (by decide))
          rwa [jaB_t (fun q h1 h2 => absurd h2 (by omega))] at this
        have N8 : ¬ jtO (X.1 (jtA X i)) → ∀ tc, tc = jtTc (jtK X i) → jc_M_next_8 D kk (nI (X.1 (jtA X i))) (nI tc) (jaU σ 20 S1) := by
          intro hO tc htc
          have hE : jtP X (i + 1) = jtA X i + 1 := by rw [hF4, jaIf1_f hnF]; exact jaIf1_f hO
          have hKa : jtKa X (jtA X i) = jaIf1 (jtSg (X.1 (jtA X i))) (X.1 (jtA X i)) 0 := jaIf1_f hO
          apply jb_M_next_8
          simp only [jaU_eq, jaU_U, jaUI_at, jaPt_ne (show (4 : Nat) ≠ 17 by decide), jaPt_ne (show (4 : Nat) ≠ 14 by decide), b4, nI_add]
          have f2 : jaFr [] [4, 14, 15, 16, 17, 20] S (jaUI (jaUI (jaUI S1 70 0 14 (nI tc)) 70 0 17 (nI (X.1 (jtA X i)))) 70 0 4 (nI (jtA X i + 1))) := ((f1.uf (by decide)).uf (by decide)).uf (by decide)
          refine h _ ⟨mT _ f2, hX, hl, by rw [hE]; simp (disch := first | omega | decide) only [jaU_eq, jaU_U, nI_add, pk_mul, jaIx_nI, vp_inT, true_and, and_true, ↓jaO0, ↓jaO1, nI_z, nI_z2, nI_z3, nI_z4, nI_z5, nI_lt', nI_le', nI_eq', jaUI_at, jaPt_eq, jaPt_ne, jaUI_o, jaUI_2, jaUL_at, jaUL_o, jaUL_1, jaB_z, jaB_1, ↓jaB_01, Classical.not_not, and_self, true_or, or_true, nI_11, Nat.reduceEqDiff, Nat.reduceAdd, Nat.reduceMul, Nat.add_zero, Nat.zero_add, Nat.mul_zero, not_true_eq_false, not_false_eq_true, false_implies, true_implies], by rw [hE]; omega, by simp (disch := first | omega | decide) only [jaU_eq, jaU_U, nI_add, pk_mul, jaIx_nI, vp_inT, true_and, and_true, ↓jaO0, ↓jaO1, nI_z, nI_z2, nI_z3, nI_z4, nI_z5, nI_lt', nI_le', nI_eq', jaUI_at, jaPt_eq, jaPt_ne, jaUI_o, jaUI_2, jaUL_at, jaUL_o, jaUL_1, jaB_z, jaB_1, ↓jaB_01, Classical.not_not, and_self, true_or, or_true, nI_11, Nat.reduceEqDiff, Nat.reduceAdd, Nat.reduceMul, Nat.add_zero, Nat.zero_add, Nat.mul_zero, not_true_eq_false, not_false_eq_true, false_implies, true_implies, htc], by rw [hAt]; simp (disch := first | omega | decide) only [jaU_eq, jaU_U, nI_add, pk_mul, jaIx_nI, vp_inT, true_and, and_true, ↓jaO0, ↓jaO1, nI_z, nI_z2, nI_z3, nI_z4, nI_z5, nI_lt', nI_le', nI_eq', jaUI_at, jaPt_eq, jaPt_ne, jaUI_o, jaUI_2, jaUL_at, jaUL_o, jaUL_1, jaB_z, jaB_1, ↓jaB_01, Classical.not_not, and_self, true_or, or_true, nI_11, Nat.reduceEqDiff, Nat.reduceAdd, Nat.reduceMul, Nat.add_zero, Nat.zero_add, Nat.mul_zero, not_true_eq_false, not_false_eq_true, false_implies, true_implies, b15], fun q => ?_, fun q => ?_, fun q => ?_⟩ f2
          · rw [hK, hKa] at q
            by_cases y : jtSg (X.1 (jtA X i))
            · rw [jaIf1_t y] at q
              unfold jtSg at y
              omega
            · rw [jaIf1_f y] at q
              exact absurd q (by decide)
          · rw [hK, hKa] at q ⊢
            by_cases y : jtSg (X.1 (jtA X i))
            · rw [jaIf1_t y]
              simp (disch := first | omega | decide) only [jaU_eq, jaU_U, nI_add, pk_mul, jaIx_nI, vp_inT, true_and, and_true, ↓jaO0, ↓jaO1, nI_z, nI_z2, nI_z3, nI_z4, nI_z5, nI_lt', nI_le', nI_eq', jaUI_at, jaPt_eq, jaPt_ne, jaUI_o, jaUI_2, jaUL_at, jaUL_o, jaUL_1, jaB_z, jaB_1, ↓jaB_01, Classical.not_not, and_self, true_or, or_true, nI_11, Nat.reduceEqDiff, Nat.reduceAdd, Nat.reduceMul, Nat.add_zero, Nat.zero_add, Nat.mul_zero, not_true_eq_false, not_false_eq_true, false_implies, true_implies]
            · rw [jaIf1_f y] at q
              exact absurd q (by decide)
          · rw [hK, hKa] at q
            by_cases y : jtSg (X.1 (jtA X i))
            · rw [jaIf1_t y] at q
              unfold jtSg at y
              unfold jtTc at q
              rw [if_neg (by omega), if_neg (by omega), if_neg (by omega)] at q
              by_cases w : X.1 (jtA X i) = 0 ∨ X.1 (jtA X i) = 46
              · rw [if_pos w] at q
                exact absurd q (by decide)
              · rw [if_neg w] at q
                exact absurd q (by decide)
            · rw [jaIf1_f y] at q
              exact absurd q (by decide)
        have K3 : ¬ jtO (X.1 (jtA X i)) → jtSg (X.1 (jtA X i)) → ¬ X.1 (jtA X i) = 46 → jtTc (jtK X i) = 3 := by
          intro hO y w
          have hKa : jtKa X (jtA X i) = jaIf1 (jtSg (X.1 (jtA X i))) (X.1 (jtA X i)) 0 := jaIf1_f hO
          rw [hK, hKa, jaIf1_t y]
          unfold jtSg at y
          unfold jtTc
          rw [if_neg (by omega), if_neg (by omega), if_neg (by omega), if_neg (by omega)]
        have K4 : ¬ jtO (X.1 (jtA X i)) → (¬ jtSg (X.1 (jtA X i)) ∨ X.1 (jtA X i) = 46) → jtTc (jtK X i) = 4 := by
          intro hO y
          have hKa : jtKa X (jtA X i) = jaIf1 (jtSg (X.1 (jtA X i))) (X.1 (jtA X i)) 0 := jaIf1_f hO
          rw [hK, hKa]
          by_cases w : jtSg (X.1 (jtA X i))
          · rw [jaIf1_t w, y.resolve_left (fun v => v w)]
            rfl
          · rw [jaIf1_f w]
            rfl
        have N6 : ¬ jtO (X.1 (jtA X i)) → jtSg (X.1 (jtA X i)) → ¬ X.1 (jtA X i) = 46 → jc_M_next_6 D kk (nI (X.1 (jtA X i))) (jaU σ 20 S1) := fun x1 x2 x3 => by
          apply jb_M_next_6
          exact N8 x1 3 (K3 x1 x2 x3).symm
        have N7 : ¬ jtO (X.1 (jtA X i)) → (¬ jtSg (X.1 (jtA X i)) ∨ X.1 (jtA X i) = 46) → jc_M_next_7 D kk (nI (X.1 (jtA X i))) (jaU σ 20 S1) := fun x1 x2 => by
          apply jb_M_next_7
          exact N8 x1 4 (K4 x1 x2).symm
        refine ⟨fun _ => ?_, fun q => absurd (nI_pos' (by omega)) q⟩
        refine sp_M_isSmall (by omega) hx ?_
        simp (disch := first | omega | decide) only [jaU_eq, jaU_U, nI_add, pk_mul, jaIx_nI, vp_inT, true_and, and_true, ↓jaO0, ↓jaO1, nI_z, nI_z2, nI_z3, nI_z4, nI_z5, nI_lt', nI_le', nI_eq', jaUI_at, jaPt_eq, jaPt_ne, jaUI_o, jaUI_2, jaUL_at, jaUL_o, jaUL_1, jaB_z, jaB_1, ↓jaB_01, Classical.not_not, and_self, true_or, or_true, nI_11, Nat.reduceEqDiff, Nat.reduceAdd, Nat.reduceMul, Nat.add_zero, Nat.zero_add, Nat.mul_zero, not_true_eq_false, not_false_eq_true, false_implies, true_implies]
        refine ⟨fun q => N9 (Or.inl q), fun q1 => ?_⟩
        refine sp_M_isDigit (by omega) hx ?_
        simp (disch := first | omega | decide) only [jaU_eq, jaU_U, nI_add, pk_mul, jaIx_nI, vp_inT, true_and, and_true, ↓jaO0, ↓jaO1, nI_z, nI_z2, nI_z3, nI_z4, nI_z5, nI_lt', nI_le', nI_eq', jaUI_at, jaPt_eq, jaPt_ne, jaUI_o, jaUI_2, jaUL_at, jaUL_o, jaUL_1, jaB_z, jaB_1, ↓jaB_01, Classical.not_not, and_self, true_or, or_true, nI_11, Nat.reduceEqDiff, Nat.reduceAdd, Nat.reduceMul, Nat.add_zero, Nat.zero_add, Nat.mul_zero, not_true_eq_false, not_false_eq_true, false_implies, true_implies]
        refine ⟨fun q => N9 (Or.inr q), fun q2 => ?_⟩
        have hO : ¬ jtO (X.1 (jtA X i)) := fun y => y.elim q1 q2
        refine ⟨fun q => N6 hO (by unfold jtSg; omega) (by omega), fun q3 => ⟨fun q => N6 hO (by unfold jtSg; omega) (by omega), fun q4 => ⟨fun q => N6 hO (by unfold jtSg; omega) (by omega), fun q5 => ⟨fun q => N6 hO (by unfold jtSg; omega) (by omega), fun q6 => ⟨fun q => N6 hO (by unfold jtSg; omega) (by omega), fun q7 => ⟨fun q => N7 hO ?_, fun q8 => ⟨fun q => N7 hO ?_, fun q9 => N6 hO (by unfold jtSg; omega) (by omega)⟩⟩⟩⟩⟩⟩⟩
        · unfold jtSg; omega
        · unfold jtSg; omega
      · have hle : X.2.1 ≤ X.2.2 := hc.elim (fun y => by omega) (fun y => y.2)
        have hFi : jtFi X (jtA X i) := Or.inl (by omega)
        refine ⟨fun q => absurd q (by decide), fun _ => ?_⟩
        simp only [jaU_eq, jaU_U]
        have hK : jtK X i = 1 := by
          unfold jtK
          rw [jaIf1_t hFi, jaIf1_f (by omega)]
        refine h _ ⟨mT _ (f1.uf (by decide)), hX, hl, ?_, ?_, ?_, ?_, fun q => ?_, fun q => ?_, fun q => ?_⟩ (f1.uf (by decide))
        · rw [hF4, jaIf1_t hFi]
          simp (disch := first | omega | decide) only [jaU_eq, jaU_U, nI_add, pk_mul, jaIx_nI, vp_inT, true_and, and_true, ↓jaO0, ↓jaO1, nI_z, nI_z2, nI_z3, nI_z4, nI_z5, nI_lt', nI_le', nI_eq', jaUI_at, jaPt_eq, jaPt_ne, jaUI_o, jaUI_2, jaUL_at, jaUL_o, jaUL_1, jaB_z, jaB_1, ↓jaB_01, Classical.not_not, and_self, true_or, or_true, nI_11, Nat.reduceEqDiff, Nat.reduceAdd, Nat.reduceMul, Nat.add_zero, Nat.zero_add, Nat.mul_zero, not_true_eq_false, not_false_eq_true, false_implies, true_implies, b4]
        · rw [hF4, jaIf1_t hFi]
          omega
        · rw [hK]
          simp (disch := first | omega | decide) only [jaU_eq, jaU_U, nI_add, pk_mul, jaIx_nI, vp_inT, true_and, and_true, ↓jaO0, ↓jaO1, nI_z, nI_z2, nI_z3, nI_z4, nI_z5, nI_lt', nI_le', nI_eq', jaUI_at, jaPt_eq, jaPt_ne, jaUI_o, jaUI_2, jaUL_at, jaUL_o, jaUL_1, jaB_z, jaB_1, ↓jaB_01, Classical.not_not, and_self, true_or, or_true, nI_11, Nat.reduceEqDiff, Nat.reduceAdd, Nat.reduceMul, Nat.add_zero, Nat.zero_add, Nat.mul_zero, not_true_eq_false, not_false_eq_true, false_implies, true_implies]
          rfl
        · unfold jtAt
          rw [jaIf1_t hFi, Nat.min_eq_left hle, ← z]
          simp (disch := first | omega | decide) only [jaU_eq, jaU_U, nI_add, pk_mul, jaIx_nI, vp_inT, true_and, and_true, ↓jaO0, ↓jaO1, nI_z, nI_z2, nI_z3, nI_z4, nI_z5, nI_lt', nI_le', nI_eq', jaUI_at, jaPt_eq, jaPt_ne, jaUI_o, jaUI_2, jaUL_at, jaUL_o, jaUL_1, jaB_z, jaB_1, ↓jaB_01, Classical.not_not, and_self, true_or, or_true, nI_11, Nat.reduceEqDiff, Nat.reduceAdd, Nat.reduceMul, Nat.add_zero, Nat.zero_add, Nat.mul_zero, not_true_eq_false, not_false_eq_true, false_implies, true_implies, b15]
        · rw [hK] at q; exact absurd q (by decide)
        · rw [hK] at q; exact absurd q (by decide)
        · rw [hK] at q; exact absurd q (by decide)
    simp (disch := first | omega | decide) only [jaU_eq, jaU_U, nI_add, pk_mul, jaIx_nI, vp_inT, true_and, and_true, ↓jaO0, ↓jaO1, nI_z, nI_z2, nI_z3, nI_z4, nI_z5, nI_lt', nI_le', nI_eq', jaUI_at, jaPt_eq, jaPt_ne, jaUI_o, jaUI_2, jaUL_at, jaUL_o, jaUL_1, jaB_z, jaB_1, ↓jaB_01, Classical.not_not, and_self, true_or, or_true, nI_11, Nat.reduceEqDiff, Nat.reduceAdd, Nat.reduceMul, Nat.add_zero, Nat.zero_add, Nat.mul_zero, not_true_eq_false, not_false_eq_true, false_implies, true_implies]
    refine ⟨fun q => N4 ?_, fun q => ⟨fun q2 => N4 ?_, fun q2 => ?_⟩⟩
    · by_cases z : jtA X i = X.2.1
      · exact Or.inr ⟨z, q⟩
      · refine Or.inl ⟨by omega, ?_⟩
        unfold jtFi
        omega
    · refine Or.inl ⟨by omega, ?_⟩
      unfold jtFi
      omega
    · have hFi : jtFi X (jtA X i) := Or.inr (by omega)
      have hK : jtK X i = 0 := by
        unfold jtK
        rw [jaIf1_t hFi, jaIf1_t (by omega)]
      have f2 : jaFr [] [4, 14, 15, 16, 17, 20] S (jaUI (jaUI S1 70 0 15 (nI X.2.2)) 70 0 14 (nI 4)) := (f1.uf (by decide)).uf (by decide)
      refine h _ ⟨mT _ f2, hX, hl, ?_, ?_, ?_, ?_, fun q => ?_, fun q => ?_, fun q => ?_⟩ f2
      · rw [hF4, jaIf1_t hFi]
        simp (disch := first | omega | decide) only [jaU_eq, jaU_U, nI_add, pk_mul, jaIx_nI, vp_inT, true_and, and_true, ↓jaO0, ↓jaO1, nI_z, nI_z2, nI_z3, nI_z4, nI_z5, nI_lt', nI_le', nI_eq', jaUI_at, jaPt_eq, jaPt_ne, jaUI_o, jaUI_2, jaUL_at, jaUL_o, jaUL_1, jaB_z, jaB_1, ↓jaB_01, Classical.not_not, and_self, true_or, or_true, nI_11, Nat.reduceEqDiff, Nat.reduceAdd, Nat.reduceMul, Nat.add_zero, Nat.zero_add, Nat.mul_zero, not_true_eq_false, not_false_eq_true, false_implies, true_implies, b4]
      · rw [hF4, jaIf1_t hFi]
        omega
      · rw [hK]
        simp (disch := first | omega | decide) only [jaU_eq, jaU_U, nI_add, pk_mul, jaIx_nI, vp_inT, true_and, and_true, ↓jaO0, ↓jaO1, nI_z, nI_z2, nI_z3, nI_z4, nI_z5, nI_lt', nI_le', nI_eq', jaUI_at, jaPt_eq, jaPt_ne, jaUI_o, jaUI_2, jaUL_at, jaUL_o, jaUL_1, jaB_z, jaB_1, ↓jaB_01, Classical.not_not, and_self, true_or, or_true, nI_11, Nat.reduceEqDiff, Nat.reduceAdd, Nat.reduceMul, Nat.add_zero, Nat.zero_add, Nat.mul_zero, not_true_eq_false, not_false_eq_true, false_implies, true_implies]
        rfl
      · unfold jtAt
        rw [jaIf1_t hFi, Nat.min_eq_right (by omega)]
        simp (disch := first | omega | decide) only [jaU_eq, jaU_U, nI_add, pk_mul, jaIx_nI, vp_inT, true_and, and_true, ↓jaO0, ↓jaO1, nI_z, nI_z2, nI_z3, nI_z4, nI_z5, nI_lt', nI_le', nI_eq', jaUI_at, jaPt_eq, jaPt_ne, jaUI_o, jaUI_2, jaUL_at, jaUL_o, jaUL_1, jaB_z, jaB_1, ↓jaB_01, Classical.not_not, and_self, true_or, or_true, nI_11, Nat.reduceEqDiff, Nat.reduceAdd, Nat.reduceMul, Nat.add_zero, Nat.zero_add, Nat.mul_zero, not_true_eq_false, not_false_eq_true, false_implies, true_implies]
      · rw [hK] at q; exact absurd q (by decide)
      · rw [hK] at q; exact absurd q (by decide)
      · rw [hK] at q; exact absurd q (by decide)
  have B : ∀ n p S', p + n = jtA X i → jtP X i ≤ p → S'.1 70 0 4 = nI p → jaFr [] [4, 14, 15, 16, 17, 20] S S' → jc_M_next_1 D kk (jaU σ 20 S') := by
    intro n
    induction n with
    | zero =>
      intro p S' hn hp1 a f
      have hpA : p = jtA X i := by omega
      subst hpA
      have T := mT S' f
      have c := C S' a f
      apply jb_M_next_1
      refine sp_M_peek (by omega) T hX hl a (by omega) (fun z => ?_) (fun z => ?_)
      · have hx := hX (jtA X i)
        have hb : ¬ jtB (X.1 (jtA X i)) := fun y => s3 ⟨z, y⟩
        simp (disch := first | omega | decide) only [jaU_eq, jaU_U, nI_add, pk_mul, jaIx_nI, vp_inT, true_and, and_true, ↓jaO0, ↓jaO1, nI_z, nI_z2, nI_z3, nI_z4, nI_z5, nI_lt', nI_le', nI_eq', jaUI_at, jaPt_eq, jaPt_ne, jaUI_o, jaUI_2, jaUL_at, jaUL_o, jaUL_1, jaB_z, jaB_1, ↓jaB_01, Classical.not_not, and_self, true_or, or_true, nI_11, Nat.reduceEqDiff, Nat.reduceAdd, Nat.reduceMul, Nat.add_zero, Nat.zero_add, Nat.mul_zero, not_true_eq_false, not_false_eq_true, false_implies, true_implies]
        refine ⟨fun y => absurd (Or.inl y) hb, fun _ => ?_⟩
        refine sp_M_peek (by omega) T hX hl a (by omega) (fun _ => ?_) (fun z => absurd z (by omega))
        simp only [jaU_eq, jaU_U, jaUI_at, jaPt_eq, jaPt_ne (show (3 : Nat) ≠ 16 by decide), jaPt_ne (show (3 : Nat) ≠ 15 by decide), jaPt_ne (show (4 : Nat) ≠ 16 by decide), jaPt_ne (show (4 : Nat) ≠ 15 by decide), jaPt_ne (show (5 : Nat) ≠ 16 by decide), jaPt_ne (show (5 : Nat) ≠ 15 by decide), a]
        refine ⟨fun _ => c, fun y => ?_⟩
        rw [nI_eq' (by omega) (by omega)] at y
        exact absurd (Or.inr y) hb
      · refine ⟨fun y => absurd y (by decide), fun _ => ?_⟩
        refine sp_M_peek (by omega) T hX hl a (by omega) (fun z => absurd z (by omega)) (fun _ => ?_)
        simp only [jaU_eq, jaU_U, jaUI_at, jaPt_eq, jaPt_ne (show (3 : Nat) ≠ 16 by decide), jaPt_ne (show (3 : Nat) ≠ 15 by decide), jaPt_ne (show (4 : Nat) ≠ 16 by decide), jaPt_ne (show (4 : Nat) ≠ 15 by decide), jaPt_ne (show (5 : Nat) ≠ 16 by decide), jaPt_ne (show (5 : Nat) ≠ 15 by decide), a]
        exact ⟨fun _ => c, fun y => absurd y (by decide)⟩
    | succ n ih =>
      intro p S' hn hp1 a f
      have T := mT S' f
      obtain ⟨b1, b2⟩ := s2 p hp1 (by omega)
      have nx : jc_M_next_2 D kk (jaU σ 20 S') := by
        apply jb_M_next_2
        simp (disch := first | omega | decide) only [jaU_eq, jaU_U, nI_add, pk_mul, jaIx_nI, vp_inT, true_and, and_true, ↓jaO0, ↓jaO1, nI_z, nI_z2, nI_z3, nI_z4, nI_z5, nI_lt', nI_le', nI_eq', jaUI_at, jaPt_eq, jaPt_ne, jaUI_o, jaUI_2, jaUL_at, jaUL_o, jaUL_1, jaB_z, jaB_1, ↓jaB_01, Classical.not_not, and_self, true_or, or_true, nI_11, Nat.reduceEqDiff, Nat.reduceAdd, Nat.reduceMul, Nat.add_zero, Nat.zero_add, Nat.mul_zero, not_true_eq_false, not_false_eq_true, false_implies, true_implies, a]
        exact ih (p + 1) _ (by omega) (by omega) (by simp (disch := first | omega | decide) only [jaU_eq, jaU_U, nI_add, pk_mul, jaIx_nI, vp_inT, true_and, and_true, ↓jaO0, ↓jaO1, nI_z, nI_z2, nI_z3, nI_z4, nI_z5, nI_lt', nI_le', nI_eq', jaUI_at, jaPt_eq, jaPt_ne, jaUI_o, jaUI_2, jaUL_at, jaUL_o, jaUL_1, jaB_z, jaB_1, ↓jaB_01, Classical.not_not, and_self, true_or, or_true, nI_11, Nat.reduceEqDiff, Nat.reduceAdd, Nat.reduceMul, Nat.add_zero, Nat.zero_add, Nat.mul_zero, not_true_eq_false, not_false_eq_true, false_implies, true_implies]) (f.uf (by decide))
      apply jb_M_next_1
      refine sp_M_peek (by omega) T hX hl a (by omega) (fun _ => ?_) (fun q => absurd q (by omega))
      have hx := hX p
      simp (disch := first | omega | decide) only [jaU_eq, jaU_U, nI_add, pk_mul, jaIx_nI, vp_inT, true_and, and_true, ↓jaO0, ↓jaO1, nI_z, nI_z2, nI_z3, nI_z4, nI_z5, nI_lt', nI_le', nI_eq', jaUI_at, jaPt_eq, jaPt_ne, jaUI_o, jaUI_2, jaUL_at, jaUL_o, jaUL_1, jaB_z, jaB_1, ↓jaB_01, Classical.not_not, and_self, true_or, or_true, nI_11, Nat.reduceEqDiff, Nat.reduceAdd, Nat.reduceMul, Nat.add_zero, Nat.zero_add, Nat.mul_zero, not_true_eq_false, not_false_eq_true, false_implies, true_implies]
      refine ⟨fun _ => nx, fun q => ?_⟩
      refine sp_M_peek (by omega) T hX hl a (by omega) (fun _ => ?_) (fun q => absurd q (by omega))
      simp (disch := first | omega | decide) only [jaU_eq, jaU_U, nI_add, pk_mul, jaIx_nI, vp_inT, true_and, and_true, ↓jaO0, ↓jaO1, nI_z, nI_z2, nI_z3, nI_z4, nI_z5, nI_lt', nI_le', nI_eq', jaUI_at, jaPt_eq, jaPt_ne, jaUI_o, jaUI_2, jaUL_at, jaUL_o, jaUL_1, jaB_z, jaB_1, ↓jaB_01, Classical.not_not, and_self, true_or, or_true, nI_11, Nat.reduceEqDiff, Nat.reduceAdd, Nat.reduceMul, Nat.add_zero, Nat.zero_add, Nat.mul_zero, not_true_eq_false, not_false_eq_true, false_implies, true_implies]
      refine ⟨fun q2 => absurd b2 (fun z => z.elim q q2), fun _ => nx⟩
  exact B (jtA X i - jtP X i) (jtP X i) S (by omega) (Nat.le_refl _) hp jaFr.rfl
end
