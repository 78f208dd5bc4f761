section
/-! the class: tokens -/
theorem jtCh : ∀ p : Fin 158, (Int32.toUInt32 ((Int32.toUInt32 ((Int32.ofNat (jaN 0 (jaN [] jaStr 1) p.1)) &&& (nI 255)) % 65536).toInt32) % 65536).toInt32 = nI (jaN 0 (jaN [] jaStr 1) p.1) ∧ (Int32.toUInt32 ((Int32.ofNat (jaN 0 (jaN [] jaStr 1) p.1)) &&& (nI 255)) % 65536).toInt32 = nI (jaN 0 (jaN [] jaStr 1) p.1) ∧ jaN 0 (jaN [] jaStr 1) p.1 < 256 := by decide +kernel
theorem sp_JS_charAtW {D : Nat} (hD : 5 ≤ D) {kk : Int32 → jaT → Prop} {σ : jaT} {p : Nat} (hp : p < 158) (h : kk (nI (jaN 0 (jaN [] jaStr 1) p)) σ) : jaDe D jy_JS_charAtW [.inr (.inr (102, 24, 0)), .inl (nI p)] σ (jaKi kk) := by
  obtain ⟨c1, c2, c3⟩ := jtCh ⟨p, hp⟩
  obtain ⟨D, rfl, hD⟩ := jaSuc hD
  apply js_JS_charAtW
  obtain ⟨D2, rfl, hD2⟩ := jaSuc (show 3 + 1 ≤ D by omega)
  apply js_JS_isLatin1W
  simp (disch := first | omega | decide) only [jaU_eq, jaU_U, nI_add, pk_mul, jaIx_nI, vp_inT, true_and, and_true, ↓jaO0, ↓jaO1, nI_z, nI_z2, nI_z3, nI_z4, nI_z5, nI_lt', nI_le', nI_eq', jaUI_at, jaPt_eq, jaPt_ne, jaUI_o, jaUI_2, jaUL_at, jaUL_o, jaUL_1, jaB_z, jaB_1, ↓jaB_01, Classical.not_not, and_self, true_or, or_true, nI_11, Nat.reduceEqDiff, Nat.reduceAdd, Nat.reduceMul, Nat.add_zero, Nat.zero_add, Nat.mul_zero, not_true_eq_false, not_false_eq_true, false_implies, true_implies]
  apply js_JL_charAt
  obtain ⟨D3, rfl, hD3⟩ := jaSuc (show 2 + 1 ≤ D2 by omega)
  apply js_JS_checkIndex
  obtain ⟨D4, rfl, hD4⟩ := jaSuc (show 1 + 1 ≤ D3 by omega)
  apply js_JP_checkIndex
  simp (disch := first | omega | decide) only [jaU_eq, jaU_U, nI_add, pk_mul, jaIx_nI, vp_inT, true_and, and_true, ↓jaO0, ↓jaO1, nI_z, nI_z2, nI_z3, nI_z4, nI_z5, nI_lt', nI_le', nI_eq', jaUI_at, jaPt_eq, jaPt_ne, jaUI_o, jaUI_2, jaUL_at, jaUL_o, jaUL_1, jaB_z, jaB_1, ↓jaB_01, Classical.not_not, and_self, true_or, or_true, nI_11, Nat.reduceEqDiff, Nat.reduceAdd, Nat.reduceMul, Nat.add_zero, Nat.zero_add, Nat.mul_zero, not_true_eq_false, not_false_eq_true, false_implies, true_implies]
  simp only [] at c1 c2 c3
  rw [c2, jtU16 ⟨_, c3⟩]
  exact ⟨fun _ => ⟨rfl, rfl, h⟩, fun q => absurd hp q⟩
theorem jaL_ma {w c : Nat} (hc : c < 2147483648) : Int64.ofNat w * Int64.ofNat 256 + Int32.toInt64 (nI c) = Int64.ofNat (w * 256 + c) := by
  rw [Int64.ofNat_add, Int64.ofNat_mul]
  congr 1
  apply Int64.toInt_inj.mp
  rw [Int32.toInt_toInt64, nI_toInt hc, Int64.toInt_ofNat', Int.bmod_eq_of_le (by have e : Int64.size = 18446744073709551616 := rfl; omega) (by have e : Int64.size = 18446744073709551616 := rfl; omega)]
theorem sp_Rd_kindOfWord {D : Nat} (hD : 6 ≤ D) {kk : Int32 → jaT → Prop} {σ : jaT} {w : Nat} (hw : w < 9223372036854775808) (h : kk (nI (jtKw w)) σ) : jaDe D jy_Rd_kindOfWord [.inr (.inl (Int64.ofNat w))] σ (jaKi kk) := by
  obtain ⟨D, rfl, hD⟩ := jaSuc hD
  rw [← jtKs_k hw] at h
  apply js_Rd_kindOfWord
  have L : ∀ (l : List Nat) (p k v : Nat) (u : Option jaV), p + l.length = 158 → (∀ j, j < l.length → jaN 0 (jaN [] jaStr 1) (p + j) = jaN 0 l j) → kk (nI (jtKs l k v (Int64.ofNat w))) σ → jc_Rd_kindOfWord_1 D kk (Int64.ofNat w) (nI k) (Int64.ofNat v) (nI p) u σ := by
    intro l
    induction l with
    | nil =>
      intro p k v u hp _ hk
      simp only [List.length_nil, Nat.add_zero] at hp
      subst hp
      apply jb_Rd_kindOfWord_1
      obtain ⟨D2, rfl, hD2⟩ := jaSuc (show 4 + 1 ≤ D by omega)
      apply js_JS_lengthW
      obtain ⟨D3, rfl, hD3⟩ := jaSuc (show 3 + 1 ≤ D2 by omega)
      apply js_JS_coderW
      refine ⟨fun q => absurd q (by decide), fun _ => ⟨by decide, ?_⟩⟩
      rw [show (nI 158) >>> ((nI 0) &&& 31) = nI 158 by decide]
      simp (disch := first | omega | decide) only [jaU_eq, jaU_U, nI_add, pk_mul, jaIx_nI, vp_inT, true_and, and_true, ↓jaO0, ↓jaO1, nI_z, nI_z2, nI_z3, nI_z4, nI_z5, nI_lt', nI_le', nI_eq', jaUI_at, jaPt_eq, jaPt_ne, jaUI_o, jaUI_2, jaUL_at, jaUL_o, jaUL_1, jaB_z, jaB_1, ↓jaB_01, Classical.not_not, and_self, true_or, or_true, nI_11, Nat.reduceEqDiff, Nat.reduceAdd, Nat.reduceMul, Nat.add_zero, Nat.zero_add, Nat.mul_zero, not_true_eq_false, not_false_eq_true, false_implies, true_implies]
      refine ⟨fun _ => ?_, fun q => absurd (by omega) q⟩
      exact hk
    | cons c l ih =>
      intro p k v u hp hl hk
      simp only [List.length_cons] at hp
      have hc : jaN 0 (jaN [] jaStr 1) p = c := hl 0 (by rw [List.length_cons]; omega)
      have hl2 : ∀ j, j < l.length → jaN 0 (jaN [] jaStr 1) (p + 1 + j) = jaN 0 l j := fun j hj => by
        have := hl (j + 1) (by rw [List.length_cons]; omega)
        rwa [show p + (j + 1) = p + 1 + j by omega] at this
      have hc3 := (jtCh ⟨p, by omega⟩).2.2
      simp only [] at hc3
      rw [hc] at hc3
      rw [jtKs] at hk
      apply jb_Rd_kindOfWord_1
      obtain ⟨D2, rfl, hD2⟩ := jaSuc (show 4 + 1 ≤ D by omega)
      apply js_JS_lengthW
      obtain ⟨D3, rfl, hD3⟩ := jaSuc (show 3 + 1 ≤ D2 by omega)
      apply js_JS_coderW
      refine ⟨fun q => absurd q (by decide), fun _ => ⟨by decide, ?_⟩⟩
      rw [show (nI 158) >>> ((nI 0) &&& 31) = nI 158 by decide]
      simp (disch := first | omega | decide) only [jaU_eq, jaU_U, nI_add, pk_mul, jaIx_nI, vp_inT, true_and, and_true, ↓jaO0, ↓jaO1, nI_z, nI_z2, nI_z3, nI_z4, nI_z5, nI_lt', nI_le', nI_eq', jaUI_at, jaPt_eq, jaPt_ne, jaUI_o, jaUI_2, jaUL_at, jaUL_o, jaUL_1, jaB_z, jaB_1, ↓jaB_01, Classical.not_not, and_self, true_or, or_true, nI_11, Nat.reduceEqDiff, Nat.reduceAdd, Nat.reduceMul, Nat.add_zero, Nat.zero_add, Nat.mul_zero, not_true_eq_false, not_false_eq_true, false_implies, true_implies]
      refine ⟨fun q => absurd q (by omega), fun _ => ?_⟩
      refine sp_JS_charAtW (by omega) (by omega) ?_
      rw [hc]
      simp (disch := first | omega | decide) only [jaU_eq, jaU_U, nI_add, pk_mul, jaIx_nI, vp_inT, true_and, and_true, ↓jaO0, ↓jaO1, nI_z, nI_z2, nI_z3, nI_z4, nI_z5, nI_lt', nI_le', nI_eq', jaUI_at, jaPt_eq, jaPt_ne, jaUI_o, jaUI_2, jaUL_at, jaUL_o, jaUL_1, jaB_z, jaB_1, ↓jaB_01, Classical.not_not, and_self, true_or, or_true, nI_11, Nat.reduceEqDiff, Nat.reduceAdd, Nat.reduceMul, Nat.add_zero, Nat.zero_add, Nat.mul_zero, not_true_eq_false, not_false_eq_true, false_implies, true_implies, lg_cmp_eq]
      refine ⟨fun q => ?_, fun q => ?_⟩
      · rw [jaIf1_t q] at hk
        refine ⟨fun q2 => ?_, fun q2 => ?_⟩
        · rw [jaIf1_f q2] at hk
          exact ih (p + 1) (k + 1) 0 _ (by omega) hl2 hk
        · rw [jaIf1_t q2] at hk
          exact hk
      · rw [jaIf1_f q] at hk
        rw [jaL_ma (by omega)]
        exact ih (p + 1) k _ _ (by omega) hl2 hk
  exact L _ 0 100 0 none (by decide +kernel) (fun j _ => by rw [Nat.zero_add]) h
/-- the class's tape is such a text -/
def jtT (S : jaS) (X : jtX) : Prop := ∀ j, j < 940 → S.1 1 0 j = nI (X.1 j) ∧ X.1 j < 256
/-- a token's kind, its place, what it says -/
def jtFi (X : jtX) (a : Nat) : Prop := X.2.1 ≤ a ∨ X.2.2 ≤ a
noncomputable def jtE (X : jtX) (a : Nat) : Nat := jaIf1 (jtO (X.1 a)) (jtRn X a) (a + 1)
noncomputable def jtP (X : jtX) : Nat → Nat := jaRec (fun _ p => jaIf1 (jtFi X (jtSk X p)) (jtSk X p) (jtE X (jtSk X p))) 0
noncomputable def jtA (X : jtX) (i : Nat) : Nat := jtSk X (jtP X i)
theorem jtP_s {X : jtX} {i : Nat} : jtP X (i + 1) = jaIf1 (jtFi X (jtA X i)) (jtA X i) (jtE X (jtA X i)) := rfl
/-- the kind of one that begins at a place -/
noncomputable def jtKa (X : jtX) (a : Nat) : Nat :=
  jaIf1 (jtO (X.1 a)) (jaIf1 ((∀ q, a ≤ q → q < jtRn X a → jtD (X.1 q)) ∧ jtRn X a ≤ a + 3) 2 (jaIf1 ((∀ q, a ≤ q → q < jtRn X a → jtL (X.1 q)) ∧ jtRn X a ≤ a + 7) (jtKw (jtWv X a (jtRn X a - a))) 0)) (jaIf1 (jtSg (X.1 a)) (X.1 a) 0)
noncomputable def jtK (X : jtX) (i : Nat) : Nat := jaIf1 (jtFi X (jtA X i)) (jaIf1 (X.2.2 < X.2.1) 0 1) (jtKa X (jtA X i))
noncomputable def jtAt (X : jtX) (i : Nat) : Nat := jaIf1 (jtFi X (jtA X i)) (min X.2.1 X.2.2) (jtA X i)
noncomputable def jtV (X : jtX) (i : Nat) : Nat := jtNv X (jtA X i) (jtRn X (jtA X i) - jtA X i)
noncomputable def jtW (X : jtX) (i : Nat) : Nat := jtWv X (jtA X i) (jtRn X (jtA X i) - jtA X i)
/-- the class has m tokens -/
def jtC (S : jaS) (X : jtX) (m : Nat) : Prop := ∀ j, j < m → S.1 3 0 j = nI (jtK X j) ∧ S.1 4 0 j = nI (jtAt X j) ∧ (jtK X j = 2 → S.2 5 0 j = Int64.ofNat (jtV X j)) ∧ (jtK X j = 3 → S.2 5 0 j = Int64.ofNat (jtW X j))
theorem sp_Rd_addToken {D : Nat} (hD : 1 ≤ D) {kk : jaT → Prop} {σ : jaT} {S : jaS} {m : Nat} {K A : Int32} {V : Int64} (hm : S.1 2 0 3 = nI m) (h941 : m < 941) (h : kk (jaU σ 0 (jaUI (jaUL (jaUI (jaUI S 3 0 m K) 4 0 m A) 5 0 m V) 2 0 3 (nI (m + 1))))) : jaDe D jy_Rd_addToken [.inr (.inr (2, 0, 0)), .inl K, .inl A, .inr (.inl V)] (jaU σ 0 S) (jaKv kk) := by
  obtain ⟨D, rfl, hD⟩ := jaSuc hD
  apply js_Rd_addToken
  simp (disch := first | omega | decide) only [jaU_eq, jaU_U, nI_add, pk_mul, jaIx_nI, vp_inT, true_and, and_true, ↓jaO0, ↓jaO1, nI_z, nI_z2, nI_z3, nI_z4, nI_z5, nI_lt', nI_le', nI_eq', jaUI_at, jaPt_eq, jaPt_ne, jaUI_o, jaUI_2, jaUL_at, jaUL_o, jaUL_1, jaB_z, jaB_1, ↓jaB_01, Classical.not_not, and_self, true_or, or_true, nI_11, Nat.reduceEqDiff, Nat.reduceAdd, Nat.reduceMul, Nat.add_zero, Nat.zero_add, Nat.mul_zero, not_true_eq_false, not_false_eq_true, false_implies, true_implies, hm]
  refine ⟨fun q => absurd q (by omega), fun _ => ?_⟩
  exact h
theorem jtNv_le {X : jtX} {a : Nat} (hX : ∀ q, X.1 q < 256) : ∀ n, n ≤ 3 → jtNv X a n ≤ 30000 ∧ (n ≤ 2 → jtNv X a n ≤ 2900) ∧ (n ≤ 1 → jtNv X a n ≤ 256) ∧ (n = 0 → jtNv X a n = 0)
  | 0, _ => ⟨by rw [jtNv]; omega, fun _ => by rw [jtNv]; omega, fun _ => by rw [jtNv]; omega, fun _ => rfl⟩
  | n + 1, h => by
    obtain ⟨h1, h2, h3, h4⟩ := jtNv_le hX (a := a) n (by omega)
    have := hX (a + n)
    rw [jtNv]
    refine ⟨?_, fun q => ?_, fun q => ?_, fun q => absurd q (by omega)⟩
    · have := h2 (by omega); omega
    · have := h3 (by omega); omega
    · have := h4 (by omega); omega
theorem jtWv_lt {X : jtX} {a : Nat} (hX : ∀ q, X.1 q < 256) : ∀ n, jtWv X a n < 256 ^ n
  | 0 => by rw [jtWv]; decide
  | n + 1 => by
    have h1 := jtWv_lt hX (a := a) n
    have := hX (a + n)
    rw [jtWv, Nat.pow_succ]
    omega
theorem jtWv_63 {X : jtX} {a : Nat} (hX : ∀ q, X.1 q < 256) {n : Nat} (hn : n ≤ 7) : jtWv X a n < 9223372036854775808 := by
  have h1 := jtWv_lt hX (a := a) n
  have h2 : 256 ^ n ≤ 256 ^ 7 := Nat.pow_le_pow_right (by decide) hn
  have h3 : (256 ^ 7 : Nat) = 72057594037927936 := by decide
  omega
theorem jaL_na {w c : Nat} (hc : 48 ≤ c) (hc2 : c < 256) : Int64.ofNat w * Int64.ofNat 10 + Int32.toInt64 (nI c) - Int64.ofNat 48 = Int64.ofNat (10 * w + (c - 48)) := by
  have e : Int32.toInt64 (nI c) = Int64.ofNat c := by
    have := jaL_ma (w := 0) (c := c) (by omega)
    simpa using this
  have e2 : Int64.ofNat c = Int64.ofNat (c - 48) + Int64.ofNat 48 := by
    rw [← Int64.ofNat_add, Nat.sub_add_cancel hc]
  rw [e, e2, Int64.ofNat_add, Int64.ofNat_mul, Int64.mul_comm, ← Int64.add_assoc, Int64.add_sub_cancel]
set_option maxHeartbeats 2000000 in
/-- all of a token -/
theorem sp_Rd_readToken {D : Nat} (hD : 7 ≤ D) {kk : Int32 → jaT → Prop} {σ : jaT} {S : jaS} {X : jtX} {m a : Nat} (hX : ∀ q, X.1 q < 256) (hT : jtT S X) (hl : X.2.1 ≤ 940) (ha : a < X.2.1) (hm : S.1 2 0 3 = nI m) (h941 : m < 941)
    (h : ∀ V : Int64, (jtKa X a = 2 → V = Int64.ofNat (jtNv X a (jtRn X a - a))) → (jtKa X a = 3 → V = Int64.ofNat (jtWv X a (jtRn X a - a))) → kk (nI (jtE X a)) (jaU σ 0 (jaUI (jaUL (jaUI (jaUI S 3 0 m (nI (jtKa X a))) 4 0 m (nI a)) 5 0 m V) 2 0 3 (nI (m + 1))))) :
    jaDe D jy_Rd_readToken [.inr (.inr (2, 0, 0)), .inr (.inr (1, 0, 0)), .inl (nI X.2.1), .inl (nI a)] (jaU σ 0 S) (jaKi kk) := by
  obtain ⟨D, rfl, hD⟩ := jaSuc hD
  obtain ⟨t1, t2⟩ := hT a (by omega)
  have hr := jtRn_s X a
  apply js_Rd_readToken
  simp (disch := first | omega | decide) only [jaU_eq, jaU_U, nI_add, pk_mul, jaIx_nI, vp_inT, true_and, and_true, ↓jaO0, ↓jaO1, nI_z, nI_z2, nI_z3, nI_z4, nI_z5, nI_lt', nI_le', nI_eq', jaUI_at, jaPt_eq, jaPt_ne, jaUI_o, jaUI_2, jaUL_at, jaUL_o, jaUL_1, jaB_z, jaB_1, ↓jaB_01, Classical.not_not, and_self, true_or, or_true, nI_11, Nat.reduceEqDiff, Nat.reduceAdd, Nat.reduceMul, Nat.add_zero, Nat.zero_add, Nat.mul_zero, not_true_eq_false, not_false_eq_true, false_implies, true_implies, t1]
  -- the loop
  have Lx : jtO (X.1 a) → jc_Rd_readToken_4 D kk (nI X.2.1) (nI a) (nI 0) (nI 0) (Int64.ofNat 0) (Int64.ofNat 0) (nI a) (jaU σ 0 S) := by
    intro hO
    have hE : jtE X a = jtRn X a := jaIf1_t hO
    have hKa : jtKa X a = jaIf1 ((∀ q, a ≤ q → q < jtRn X a → jtD (X.1 q)) ∧ jtRn X a ≤ a + 3) 2 (jaIf1 ((∀ q, a ≤ q → q < jtRn X a → jtL (X.1 q)) ∧ jtRn X a ≤ a + 7) (jtKw (jtWv X a (jtRn X a - a))) 0) := jaIf1_t hO
    rw [hE, hKa] at h
    have hb : a < jtRn X a := by
      rcases Nat.lt_or_ge a (jtRn X a) with q | q
      · exact q
      · have := hr.2.2
        rw [show jtRn X a = a by omega] at this
        exact absurd ⟨ha, hO⟩ this
    have hRl : jtRn X a ≤ X.2.1 := by
      have := hr.2.1 (jtRn X a - 1) (by omega) (by omega)
      have := this.1
      omega
    have hnot : ∀ c, jtL c → jtD c → False := fun c h1 h2 => by unfold jtL at h1; unfold jtD at h2; omega
    -- the end of it
    have fin : ∀ cL cD V6 V8, cL + cD = jtRn X a - a → (cL = 0 ↔ ∀ q, a ≤ q → q < jtRn X a → jtD (X.1 q)) → (cD = 0 ↔ ∀ q, a ≤ q → q < jtRn X a → jtL (X.1 q)) → (cL = 0 → cD ≤ 3 → V6 = Int64.ofNat (jtNv X a (jtRn X a - a))) → (cD = 0 → cL ≤ 7 → V8 = Int64.ofNat (jtWv X a (jtRn X a - a))) →
        (¬ cL = 0 → (¬ cD = 0 → jaDe D jy_Rd_addToken [.inr (.inr (2, 0, 0)), .inl (nI 0), .inl (nI a), .inr (.inl (Int64.ofNat 0))] (jaU σ 0 S) (jaKv fun σ1 => kk (nI (jtRn X a)) σ1)) ∧
          (cD = 0 → (7 < cL → jaDe D jy_Rd_addToken [.inr (.inr (2, 0, 0)), .inl (nI 0), .inl (nI a), .inr (.inl (Int64.ofNat 0))] (jaU σ 0 S) (jaKv fun σ1 => kk (nI (jtRn X a)) σ1)) ∧
            (¬ 7 < cL → jaDe D jy_Rd_kindOfWord [.inr (.inl V8)] (jaU σ 0 S) (jaKi fun r4 σ3 => jaDe D jy_Rd_addToken [.inr (.inr (2, 0, 0)), .inl r4, .inl (nI a), .inr (.inl V8)] σ3 (jaKv fun σ1 => kk (nI (jtRn X a)) σ1))))) ∧
        (cL = 0 → (3 < cD → (¬ cD = 0 → jaDe D jy_Rd_addToken [.inr (.inr (2, 0, 0)), .inl (nI 0), .inl (nI a), .inr (.inl (Int64.ofNat 0))] (jaU σ 0 S) (jaKv fun σ1 => kk (nI (jtRn X a)) σ1)) ∧
          (cD = 0 → (7 < cL → jaDe D jy_Rd_addToken [.inr (.inr (2, 0, 0)), .inl (nI 0), .inl (nI a), .inr (.inl (Int64.ofNat 0))] (jaU σ 0 S) (jaKv fun σ1 => kk (nI (jtRn X a)) σ1)) ∧
            (¬ 7 < cL → jaDe D jy_Rd_kindOfWord [.inr (.inl V8)] (jaU σ 0 S) (jaKi fun r4 σ3 => jaDe D jy_Rd_addToken [.inr (.inr (2, 0, 0)), .inl r4, .inl (nI a), .inr (.inl V8)] σ3 (jaKv fun σ1 => kk (nI (jtRn X a)) σ1))))) ∧
          (¬ 3 < cD → jaDe D jy_Rd_addToken [.inr (.inr (2, 0, 0)), .inl (nI 2), .inl (nI a), .inr (.inl V6)] (jaU σ 0 S) (jaKv fun σ1 => kk (nI (jtRn X a)) σ1))) := by
      intro cL cD V6 V8 hc hL hDd v6 v8
      have bad : ¬ (cL = 0 ∧ cD ≤ 3) → ¬ (cD = 0 ∧ cL ≤ 7) → jaDe D jy_Rd_addToken [.inr (.inr (2, 0, 0)), .inl (nI 0), .inl (nI a), .inr (.inl (Int64.ofNat 0))] (jaU σ 0 S) (jaKv fun σ1 => kk (nI (jtRn X a)) σ1) := fun x1 x2 => by
        rw [jaIf1_f (fun z => x1 ⟨hL.mpr z.1, by have := hL.mpr z.1; omega⟩), jaIf1_f (fun z => x2 ⟨hDd.mpr z.1, by have := hDd.mpr z.1; omega⟩)] at h
        exact sp_Rd_addToken (by omega) hm h941 (h _ (fun z => absurd z (by decide)) (fun z => absurd z (by decide)))
      have wrd : ¬ cL = 0 → cD = 0 → cL ≤ 7 → jaDe D jy_Rd_kindOfWord [.inr (.inl V8)] (jaU σ 0 S) (jaKi fun r4 σ3 => jaDe D jy_Rd_addToken [.inr (.inr (2, 0, 0)), .inl r4, .inl (nI a), .inr (.inl V8)] σ3 (jaKv fun σ1 => kk (nI (jtRn X a)) σ1)) := fun x1 x2 x3 => by
        rw [jaIf1_f (fun z => x1 (hL.mpr z.1)), jaIf1_t ⟨hDd.mp x2, by omega⟩] at h
        rw [v8 x2 x3]
        refine sp_Rd_kindOfWord (by omega) (jtWv_63 hX (by omega)) ?_
        refine sp_Rd_addToken (by omega) hm h941 (h _ (fun z => ?_) (fun _ => rfl))
        exact absurd z (by
          intro z
          have : ∀ (l : List Nat) (k w : Nat), 3 ≤ k → jtKl l k w ≠ 2 := by
            intro l
            induction l with
            | nil => intro k w _; rw [jtKl]; decide
            | cons c l ih =>
              intro k w hk
              rw [jtKl]
              by_cases q : c = w
              · rw [if_pos q]; omega
              · rw [if_neg q]; exact ih (k + 1) w (by omega)
          exact this _ _ _ (by decide) z)
      refine ⟨fun x1 => ⟨fun x2 => bad (fun z => x1 z.1) (fun z => x2 z.1), fun x2 => ⟨fun x3 => bad (fun z => x1 z.1) (fun z => by omega), fun x3 => wrd x1 x2 (by omega)⟩⟩, fun x1 => ⟨fun x2 => ⟨fun x3 => bad (fun z => by omega) (fun z => x3 z.1), fun x3 => absurd x3 (by omega)⟩, fun x2 => ?_⟩⟩
      rw [jaIf1_t ⟨hL.mp x1, by omega⟩] at h
      exact sp_Rd_addToken (by omega) hm h941 (h _ (fun _ => v6 x1 (by omega)) (fun z => absurd z (by decide)))
    have L : ∀ n i cL cD V6 V8, a ≤ i → i + n = jtRn X a → cL + cD = i - a → (cL = 0 ↔ ∀ q, a ≤ q → q < i → jtD (X.1 q)) → (cD = 0 ↔ ∀ q, a ≤ q → q < i → jtL (X.1 q)) → (cL = 0 → cD ≤ 3 → V6 = Int64.ofNat (jtNv X a (i - a))) → (cD = 0 → cL ≤ 7 → V8 = Int64.ofNat (jtWv X a (i - a))) →
        jc_Rd_readToken_4 D kk (nI X.2.1) (nI a) (nI cL) (nI cD) V6 V8 (nI i) (jaU σ 0 S) := by
      intro n
      induction n with
      | zero =>
        intro i cL cD V6 V8 hi hn hc hL hDd v6 v8
        have hi2 : i = jtRn X a := by omega
        subst hi2
        have F := fin cL cD V6 V8 hc hL hDd v6 v8
        apply jb_Rd_readToken_4
        simp (disch := first | omega | decide) only [jaU_eq, jaU_U, nI_add, pk_mul, jaIx_nI, vp_inT, true_and, and_true, ↓jaO0, ↓jaO1, nI_z, nI_z2, nI_z3, nI_z4, nI_z5, nI_lt', nI_le', nI_eq', jaUI_at, jaPt_eq, jaPt_ne, jaUI_o, jaUI_2, jaUL_at, jaUL_o, jaUL_1, jaB_z, jaB_1, ↓jaB_01, Classical.not_not, and_self, true_or, or_true, nI_11, Nat.reduceEqDiff, Nat.reduceAdd, Nat.reduceMul, Nat.add_zero, Nat.zero_add, Nat.mul_zero, not_true_eq_false, not_false_eq_true, false_implies, true_implies]
        refine ⟨fun _ => F, fun q => ?_⟩
        obtain ⟨s1, s2⟩ := hT (jtRn X a) (by omega)
        have hno : ¬ jtO (X.1 (jtRn X a)) := fun z => hr.2.2 ⟨by omega, z⟩
        simp (disch := first | omega | decide) only [jaU_eq, jaU_U, nI_add, pk_mul, jaIx_nI, vp_inT, true_and, and_true, ↓jaO0, ↓jaO1, nI_z, nI_z2, nI_z3, nI_z4, nI_z5, nI_lt', nI_le', nI_eq', jaUI_at, jaPt_eq, jaPt_ne, jaUI_o, jaUI_2, jaUL_at, jaUL_o, jaUL_1, jaB_z, jaB_1, ↓jaB_01, Classical.not_not, and_self, true_or, or_true, nI_11, Nat.reduceEqDiff, Nat.reduceAdd, Nat.reduceMul, Nat.add_zero, Nat.zero_add, Nat.mul_zero, not_true_eq_false, not_false_eq_true, false_implies, true_implies, s1]
        refine sp_Rd_isLetter (by omega) s2 ?_
        simp (disch := first | omega | decide) only [jaU_eq, jaU_U, nI_add, pk_mul, jaIx_nI, vp_inT, true_and, and_true, ↓jaO0, ↓jaO1, nI_z, nI_z2, nI_z3, nI_z4, nI_z5, nI_lt', nI_le', nI_eq', jaUI_at, jaPt_eq, jaPt_ne, jaUI_o, jaUI_2, jaUL_at, jaUL_o, jaUL_1, jaB_z, jaB_1, ↓jaB_01, Classical.not_not, and_self, true_or, or_true, nI_11, Nat.reduceEqDiff, Nat.reduceAdd, Nat.reduceMul, Nat.add_zero, Nat.zero_add, Nat.mul_zero, not_true_eq_false, not_false_eq_true, false_implies, true_implies, s1]
        refine ⟨fun z => absurd (Or.inl z) hno, fun _ => ?_⟩
        refine sp_Rd_isDigit (by omega) s2 ?_
        simp (disch := first | omega | decide) only [jaU_eq, jaU_U, nI_add, pk_mul, jaIx_nI, vp_inT, true_and, and_true, ↓jaO0, ↓jaO1, nI_z, nI_z2, nI_z3, nI_z4, nI_z5, nI_lt', nI_le', nI_eq', jaUI_at, jaPt_eq, jaPt_ne, jaUI_o, jaUI_2, jaUL_at, jaUL_o, jaUL_1, jaB_z, jaB_1, ↓jaB_01, Classical.not_not, and_self, true_or, or_true, nI_11, Nat.reduceEqDiff, Nat.reduceAdd, Nat.reduceMul, Nat.add_zero, Nat.zero_add, Nat.mul_zero, not_true_eq_false, not_false_eq_true, false_implies, true_implies, s1]
        exact ⟨fun _ => F, fun z => absurd (Or.inr z) hno⟩
      | succ n ih =>
        intro i cL cD V6 V8 hi hn hc hL hDd v6 v8
        obtain ⟨o1, o2⟩ := hr.2.1 i hi (by omega)
        obtain ⟨s1, s2⟩ := hT i (by omega)
        have let_ : jtL (X.1 i) → ¬ jtD (X.1 i) → jc_Rd_readToken_4 D kk (nI X.2.1) (nI a) (nI (cL + 1)) (nI cD) V6 (V8 * Int64.ofNat 256 + Int32.toInt64 (nI (X.1 i))) (nI (i + 1)) (jaU σ 0 S) := fun z1 z2 => by
          refine ih (i + 1) (cL + 1) cD V6 _ (by omega) (by omega) (by omega) ⟨fun q => absurd q (by omega), fun q => absurd (q i hi (by omega)) z2⟩ ⟨fun q r h1 h2 => ?_, fun q => hDd.mpr (fun r h1 h2 => q r h1 (by omega))⟩ (fun q => absurd q (by omega)) (fun q1 q2 => ?_)
          · by_cases e : r = i
            · rw [e]; exact z1
            · exact hDd.mp q r h1 (by omega)
          · rw [v8 q1 (by omega), jaL_ma (by omega), show i + 1 - a = (i - a) + 1 by omega, jtWv, show a + (i - a) = i by omega]
        have dig_ : jtD (X.1 i) → ¬ jtL (X.1 i) → jc_Rd_readToken_4 D kk (nI X.2.1) (nI a) (nI cL) (nI (cD + 1)) (V6 * Int64.ofNat 10 + Int32.toInt64 (nI (X.1 i)) - Int64.ofNat 48) V8 (nI (i + 1)) (jaU σ 0 S) := fun z1 z2 => by
          refine ih (i + 1) cL (cD + 1) _ V8 (by omega) (by omega) (by omega) ⟨fun q r h1 h2 => ?_, fun q => hL.mpr (fun r h1 h2 => q r h1 (by omega))⟩ ⟨fun q => absurd q (by omega), fun q => absurd (q i hi (by omega)) z2⟩ (fun q1 q2 => ?_) (fun q => absurd q (by omega))
          · by_cases e : r = i
            · rw [e]; exact z1
            · exact hL.mp q r h1 (by omega)
          · rw [v6 q1 (by omega), jaL_na z1.1 s2, show i + 1 - a = (i - a) + 1 by omega, jtNv, show a + (i - a) = i by omega]
        apply jb_Rd_readToken_4
        simp (disch := first | omega | decide) only [jaU_eq, jaU_U, nI_add, pk_mul, jaIx_nI, vp_inT, true_and, and_true, ↓jaO0, ↓jaO1, nI_z, nI_z2, nI_z3, nI_z4, nI_z5, nI_lt', nI_le', nI_eq', jaUI_at, jaPt_eq, jaPt_ne, jaUI_o, jaUI_2, jaUL_at, jaUL_o, jaUL_1, jaB_z, jaB_1, ↓jaB_01, Classical.not_not, and_self, true_or, or_true, nI_11, Nat.reduceEqDiff, Nat.reduceAdd, Nat.reduceMul, Nat.add_zero, Nat.zero_add, Nat.mul_zero, not_true_eq_false, not_false_eq_true, false_implies, true_implies, s1]
        refine ⟨fun q => absurd q (by omega), fun _ => ?_⟩
        refine sp_Rd_isLetter (by omega) s2 ?_
        simp (disch := first | omega | decide) only [jaU_eq, jaU_U, nI_add, pk_mul, jaIx_nI, vp_inT, true_and, and_true, ↓jaO0, ↓jaO1, nI_z, nI_z2, nI_z3, nI_z4, nI_z5, nI_lt', nI_le', nI_eq', jaUI_at, jaPt_eq, jaPt_ne, jaUI_o, jaUI_2, jaUL_at, jaUL_o, jaUL_1, jaB_z, jaB_1, ↓jaB_01, Classical.not_not, and_self, true_or, or_true, nI_11, Nat.reduceEqDiff, Nat.reduceAdd, Nat.reduceMul, Nat.add_zero, Nat.zero_add, Nat.mul_zero, not_true_eq_false, not_false_eq_true, false_implies, true_implies, s1]
        refine ⟨fun z1 => ?_, fun z1 => ?_⟩
        · refine sp_Rd_isDigit (by omega) s2 ?_
          simp (disch := first | omega | decide) only [jaU_eq, jaU_U, nI_add, pk_mul, jaIx_nI, vp_inT, true_and, and_true, ↓jaO0, ↓jaO1, nI_z, nI_z2, nI_z3, nI_z4, nI_z5, nI_lt', nI_le', nI_eq', jaUI_at, jaPt_eq, jaPt_ne, jaUI_o, jaUI_2, jaUL_at, jaUL_o, jaUL_1, jaB_z, jaB_1, ↓jaB_01, Classical.not_not, and_self, true_or, or_true, nI_11, Nat.reduceEqDiff, Nat.reduceAdd, Nat.reduceMul, Nat.add_zero, Nat.zero_add, Nat.mul_zero, not_true_eq_false, not_false_eq_true, false_implies, true_implies, s1]
          exact ⟨fun z2 => let_ z1 z2, fun z2 => absurd z2 (fun z2 => hnot _ z1 z2)⟩
        · refine sp_Rd_isDigit (by omega) s2 ?_
          simp (disch := first | omega | decide) only [jaU_eq, jaU_U, nI_add, pk_mul, jaIx_nI, vp_inT, true_and, and_true, ↓jaO0, ↓jaO1, nI_z, nI_z2, nI_z3, nI_z4, nI_z5, nI_lt', nI_le', nI_eq', jaUI_at, jaPt_eq, jaPt_ne, jaUI_o, jaUI_2, jaUL_at, jaUL_o, jaUL_1, jaB_z, jaB_1, ↓jaB_01, Classical.not_not, and_self, true_or, or_true, nI_11, Nat.reduceEqDiff, Nat.reduceAdd, Nat.reduceMul, Nat.add_zero, Nat.zero_add, Nat.mul_zero, not_true_eq_false, not_false_eq_true, false_implies, true_implies, s1]
          have z2 : jtD (X.1 i) := o2.resolve_left z1
          refine ⟨fun z => absurd z2 z, fun _ => ?_⟩
          refine sp_Rd_isDigit (by omega) s2 ?_
          simp (disch := first | omega | decide) only [jaU_eq, jaU_U, nI_add, pk_mul, jaIx_nI, vp_inT, true_and, and_true, ↓jaO0, ↓jaO1, nI_z, nI_z2, nI_z3, nI_z4, nI_z5, nI_lt', nI_le', nI_eq', jaUI_at, jaPt_eq, jaPt_ne, jaUI_o, jaUI_2, jaUL_at, jaUL_o, jaUL_1, jaB_z, jaB_1, ↓jaB_01, Classical.not_not, and_self, true_or, or_true, nI_11, Nat.reduceEqDiff, Nat.reduceAdd, Nat.reduceMul, Nat.add_zero, Nat.zero_add, Nat.mul_zero, not_true_eq_false, not_false_eq_true, false_implies, true_implies, s1]
          exact ⟨fun z => absurd z2 z, fun _ => dig_ z2 z1⟩
    exact L (jtRn X a - a) a 0 0 _ _ (Nat.le_refl _) (by omega) (by omega) ⟨fun _ q h1 h2 => absurd h2 (by omega), fun _ => rfl⟩ ⟨fun _ q h1 h2 => absurd h2 (by omega), fun _ => rfl⟩ (fun _ _ => by rw [Nat.sub_self, jtNv]) (fun _ _ => by rw [Nat.sub_self, jtWv])
  refine sp_Rd_isLetter (by omega) t2 ?_
  simp (disch := first | omega | decide) only [jaU_eq, jaU_U, nI_add, pk_mul, jaIx_nI, vp_inT, true_and, and_true, ↓jaO0, ↓jaO1, nI_z, nI_z2, nI_z3, nI_z4, nI_z5, nI_lt', nI_le', nI_eq', jaUI_at, jaPt_eq, jaPt_ne, jaUI_o, jaUI_2, jaUL_at, jaUL_o, jaUL_1, jaB_z, jaB_1, ↓jaB_01, Classical.not_not, and_self, true_or, or_true, nI_11, Nat.reduceEqDiff, Nat.reduceAdd, Nat.reduceMul, Nat.add_zero, Nat.zero_add, Nat.mul_zero, not_true_eq_false, not_false_eq_true, false_implies, true_implies, t1]
  refine ⟨fun z1 => Lx (Or.inl z1), fun z1 => ?_⟩
  refine sp_Rd_isDigit (by omega) t2 ?_
  simp (disch := first | omega | decide) only [jaU_eq, jaU_U, nI_add, pk_mul, jaIx_nI, vp_inT, true_and, and_true, ↓jaO0, ↓jaO1, nI_z, nI_z2, nI_z3, nI_z4, nI_z5, nI_lt', nI_le', nI_eq', jaUI_at, jaPt_eq, jaPt_ne, jaUI_o, jaUI_2, jaUL_at, jaUL_o, jaUL_1, jaB_z, jaB_1, ↓jaB_01, Classical.not_not, and_self, true_or, or_true, nI_11, Nat.reduceEqDiff, Nat.reduceAdd, Nat.reduceMul, Nat.add_zero, Nat.zero_add, Nat.mul_zero, not_true_eq_false, not_false_eq_true, false_implies, true_implies, t1]
  refine ⟨fun z2 => Lx (Or.inr z2), fun z2 => ?_⟩
  have hO : ¬ jtO (X.1 a) := fun z => z.elim z1 z2
  have hE : jtE X a = a + 1 := jaIf1_f hO
  have hKa : jtKa X a = jaIf1 (jtSg (X.1 a)) (X.1 a) 0 := jaIf1_f hO
  have sg : ∀ c, jtSg c → ¬ c = 2 ∧ ¬ c = 3 := fun c z => by unfold jtSg at z; omega
  rw [hE, hKa] at h
  rw [jtU16 ⟨_, t2⟩]
  refine sp_JS_indexOfS (by omega) t2 (fun z j hj => ?_) (fun z => ?_)
  · rw [jaIf1_t z] at h
    simp (disch := first | omega | decide) only [jaU_eq, jaU_U, nI_add, pk_mul, jaIx_nI, vp_inT, true_and, and_true, ↓jaO0, ↓jaO1, nI_z, nI_z2, nI_z3, nI_z4, nI_z5, nI_lt', nI_le', nI_eq', jaUI_at, jaPt_eq, jaPt_ne, jaUI_o, jaUI_2, jaUL_at, jaUL_o, jaUL_1, jaB_z, jaB_1, ↓jaB_01, Classical.not_not, and_self, true_or, or_true, nI_11, Nat.reduceEqDiff, Nat.reduceAdd, Nat.reduceMul, Nat.add_zero, Nat.zero_add, Nat.mul_zero, not_true_eq_false, not_false_eq_true, false_implies, true_implies, t1]
    refine sp_Rd_addToken (by omega) hm h941 (h _ (fun q => absurd q (sg _ z).1) (fun q => absurd q (sg _ z).2))
  · rw [jaIf1_f z] at h
    refine ⟨fun _ => ?_, fun q => absurd (by decide) q⟩
    refine sp_Rd_addToken (by omega) hm h941 (h _ (fun z => absurd z (by decide)) (fun z => absurd z (by decide)))
end
