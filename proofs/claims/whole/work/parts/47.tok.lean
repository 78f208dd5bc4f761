section
/-! a text and its tokens; X: its signs, its length, the place where it must end -/
abbrev jtX : Type := (Nat → Nat) × Nat × Nat
def jtB (c : Nat) : Prop := c = 32 ∨ c = 10
def jtL (c : Nat) : Prop := 97 ≤ c ∧ c ≤ 122
def jtD (c : Nat) : Prop := 48 ≤ c ∧ c ≤ 57
def jtO (c : Nat) : Prop := jtL c ∨ jtD c
def jtSg (c : Nat) : Prop := c = 59 ∨ c = 60 ∨ c = 61 ∨ c = 62 ∨ c = 43 ∨ c = 45 ∨ c = 40 ∨ c = 41 ∨ c = 46
/-- the first from p on that isn't so, within n -/
noncomputable def jtG (P : Nat → Prop) : Nat → Nat → Nat
  | 0, p => p
  | n + 1, p => jaIf1 (P p) (jtG P n (p + 1)) p
theorem jtG_s {P : Nat → Prop} : ∀ n p, (∀ q, P q → q < p + n) → p ≤ jtG P n p ∧ (∀ q, p ≤ q → q < jtG P n p → P q) ∧ ¬ P (jtG P n p)
  | 0, p, h => ⟨Nat.le_refl _, fun q h1 h2 => absurd h2 (by rw [jtG]; omega), fun z => by have := h _ z; rw [jtG] at this; omega⟩
  | n + 1, p, h => by
    rw [jtG]
    by_cases q : P p
    · rw [jaIf1_t q]
      obtain ⟨a, b, c⟩ := jtG_s n (p + 1) (fun r hr => by have := h r hr; omega)
      refine ⟨by omega, fun r h1 h2 => ?_, c⟩
      by_cases z : r = p
      · rw [z]; exact q
      · exact b r (by omega) h2
    · rw [jaIf1_f q]
      exact ⟨Nat.le_refl _, fun r h1 h2 => absurd h2 (by omega), q⟩
theorem jtG_u {P : Nat → Prop} {p a b : Nat} (ha : p ≤ a) (ha2 : ∀ q, p ≤ q → q < a → P q) (ha3 : ¬ P a) (hb : p ≤ b) (hb2 : ∀ q, p ≤ q → q < b → P q) (hb3 : ¬ P b) : a = b := by
  rcases Nat.lt_trichotomy a b with q | q | q
  · exact absurd (hb2 a ha q) ha3
  · exact q
  · exact absurd (ha2 b hb q) hb3
def jtBq (X : jtX) (q : Nat) : Prop := q < X.2.1 ∧ jtB (X.1 q)
def jtOq (X : jtX) (q : Nat) : Prop := q < X.2.1 ∧ jtO (X.1 q)
noncomputable def jtSk (X : jtX) (p : Nat) : Nat := jtG (jtBq X) (X.2.1 - p) p
noncomputable def jtRn (X : jtX) (p : Nat) : Nat := jtG (jtOq X) (X.2.1 - p) p
theorem jtSk_s (X : jtX) (p : Nat) : p ≤ jtSk X p ∧ (∀ q, p ≤ q → q < jtSk X p → jtBq X q) ∧ ¬ jtBq X (jtSk X p) := jtG_s _ _ (fun q h => by have := h.1; omega)
theorem jtRn_s (X : jtX) (p : Nat) : p ≤ jtRn X p ∧ (∀ q, p ≤ q → q < jtRn X p → jtOq X q) ∧ ¬ jtOq X (jtRn X p) := jtG_s _ _ (fun q h => by have := h.1; omega)
theorem jtSk_u {X : jtX} {p a : Nat} (h1 : p ≤ a) (h2 : ∀ q, p ≤ q → q < a → jtBq X q) (h3 : ¬ jtBq X a) : jtSk X p = a :=
  jtG_u (jtSk_s X p).1 (jtSk_s X p).2.1 (jtSk_s X p).2.2 h1 h2 h3
theorem jtRn_u {X : jtX} {p a : Nat} (h1 : p ≤ a) (h2 : ∀ q, p ≤ q → q < a → jtOq X q) (h3 : ¬ jtOq X a) : jtRn X p = a :=
  jtG_u (jtRn_s X p).1 (jtRn_s X p).2.1 (jtRn_s X p).2.2 h1 h2 h3
/-- what n signs say as a word, as a number -/
def jtWv (X : jtX) (a : Nat) : Nat → Nat
  | 0 => 0
  | n + 1 => jtWv X a n * 256 + X.1 (a + n)
def jtNv (X : jtX) (a : Nat) : Nat → Nat
  | 0 => 0
  | n + 1 => 10 * jtNv X a n + (X.1 (a + n) - 48)
/-- words with a kind of their own -/
def jtWs : List Nat := [1936290917, 7038329, 1668247673, 439855772532, 1818325876, 435678045032, 1818848875, 1852138852, 24948, 7370100, 426953237355, 427120751464, 1953063787, 28530, 6385252, 7237492, 33602627781095015, 444250812007, 1685024357, 32199698155136356, 32497644298331492, 491327153273, 2003395685, 491327153267, 131333279212915, 1718775661, 482854658917, 500135716211, 500135194227]
def jtKl : List Nat → Nat → Nat → Nat
  | [], _, _ => 3
  | c :: l, k, w => if c = w then k else jtKl l (k + 1) w
/-- the kind of a word -/
def jtKw (w : Nat) : Nat := jtKl jtWs 100 w
/-- the same, by signs of all words in a row -/
noncomputable def jtKs : List Nat → Nat → Nat → Int64 → Nat
  | [], _, _, _ => 3
  | c :: l, k, w, x => jaIf1 (c = 32) (jaIf1 (Int64.ofNat w = x) k (jtKs l (k + 1) 0 x)) (jtKs l k (w * 256 + c) x)
noncomputable def jtKr : List Nat → Nat → Int64 → Nat
  | [], _, _ => 3
  | c :: l, k, x => jaIf1 (Int64.ofNat c = x) k (jtKr l (k + 1) x)
theorem jaL_inj {a b : Nat} (ha : a < 9223372036854775808) (hb : b < 9223372036854775808) : Int64.ofNat a = Int64.ofNat b ↔ a = b := by
  constructor
  · intro h
    have h1 : (Int64.ofNat a).toInt = a := by rw [Int64.toInt_ofNat', Int.bmod_eq_of_le (by have e : Int64.size = 18446744073709551616 := rfl; omega) (by have e : Int64.size = 18446744073709551616 := rfl; omega)]
    have h2 : (Int64.ofNat b).toInt = b := by rw [Int64.toInt_ofNat', Int.bmod_eq_of_le (by have e : Int64.size = 18446744073709551616 := rfl; omega) (by have e : Int64.size = 18446744073709551616 := rfl; omega)]
    rw [h, h2] at h1
    omega
  · intro h
    rw [h]
theorem jtKr_l {w : Nat} (hw : w < 9223372036854775808) : ∀ (l : List Nat) (k : Nat), (∀ c, c ∈ l → c < 9223372036854775808) → jtKr l k (Int64.ofNat w) = jtKl l k w
  | [], _, _ => rfl
  | c :: l, k, h => by
    rw [jtKr, jtKl, jtKr_l hw l (k + 1) (fun c hc => h c (List.mem_cons_of_mem _ hc))]
    have := jaL_inj (h c (List.mem_cons_self)) hw
    by_cases q : c = w
    · rw [jaIf1_t (this.mpr q), if_pos q]
    · rw [jaIf1_f (fun z => q (this.mp z)), if_neg q]
def jtWl : List (List Nat) := [[115, 105, 116, 101], [107, 101, 121], [99, 111, 112, 121], [102, 105, 114, 115, 116], [108, 97, 115, 116], [101, 112, 111, 99, 104], [108, 105, 110, 107], [110, 101, 101, 100], [97, 116], [112, 117, 116], [99, 104, 101, 99, 107], [99, 114, 97, 115, 104], [116, 105, 99, 107], [111, 114], [97, 110, 100], [110, 111, 116], [119, 97, 105, 116, 105, 110, 103], [103, 111, 105, 110, 103], [100, 111, 110, 101], [114, 101, 116, 114, 105, 101, 100], [115, 116, 111, 112, 112, 101, 100], [114, 101, 97, 100, 121], [119, 105, 100, 101], [114, 101, 97, 100, 115], [119, 114, 105, 116, 101, 115], [102, 114, 111, 109], [112, 108, 97, 99, 101], [116, 114, 105, 101, 115], [116, 114, 97, 110, 115]]
def jtFo : List Nat → Nat → Nat
  | [], w => w
  | c :: l, w => jtFo l (w * 256 + c)
theorem jtKs_w {x : Int64} {m : List Nat} {k : Nat} : ∀ (l : List Nat) (w : Nat), (∀ c, c ∈ l → c ≠ 32) → jtKs (l ++ 32 :: m) k w x = jaIf1 (Int64.ofNat (jtFo l w) = x) k (jtKs m (k + 1) 0 x)
  | [], w, _ => by
    rw [List.nil_append, jtKs, jaIf1_t rfl, jtFo]
  | c :: l, w, h => by
    rw [List.cons_append, jtKs, jaIf1_f (h c List.mem_cons_self), jtFo]
    exact jtKs_w l _ (fun c hc => h c (List.mem_cons_of_mem _ hc))
theorem jtKs_f {x : Int64} : ∀ (L : List (List Nat)) (k : Nat), (∀ l, l ∈ L → ∀ c, c ∈ l → c ≠ 32) → jtKs (L.flatMap (fun l => l ++ [32])) k 0 x = jtKr (L.map (fun l => jtFo l 0)) k x
  | [], k, _ => rfl
  | l :: L, k, h => by
    rw [List.flatMap_cons, List.map_cons, jtKr, ← jtKs_f L (k + 1) (fun l hl => h l (List.mem_cons_of_mem _ hl)), List.append_assoc]
    exact jtKs_w l 0 (h l List.mem_cons_self)
theorem jtKs_r {x : Int64} : jtKs (jaN [] jaStr 1) 100 0 x = jtKr jtWs 100 x := by
  have h := jtKs_f (x := x) jtWl 100 (by decide +kernel)
  rw [show jtWl.flatMap (fun l => l ++ [32]) = jaN [] jaStr 1 by decide +kernel, show jtWl.map (fun l => jtFo l 0) = jtWs by decide +kernel] at h
  exact h
theorem jtKs_k {w : Nat} (hw : w < 9223372036854775808) : jtKs (jaN [] jaStr 1) 100 0 (Int64.ofNat w) = jtKw w := by
  rw [jtKs_r, jtKr_l hw _ _ (by decide +kernel)]
  rfl
/-! the class: small things of the reader -/
theorem sp_Rd_isLetter {D : Nat} (hD : 1 ≤ D) {kk : Int32 → jaT → Prop} {σ : jaT} {m : Nat} (hm : m < 256) (h : kk (jaB (jtL m)) σ) : jaDe D jy_Rd_isLetter [.inl (nI m)] σ (jaKi kk) := by
  obtain ⟨D, rfl, hD⟩ := jaSuc hD
  unfold jtL at h
  apply js_Rd_isLetter
  simp (disch := first | omega | decide) only [jaU_eq, jaU_U, nI_add, pk_mul, jaIx_nI, vp_inT, true_and, and_true, ↓jaO0, ↓jaO1, nI_z, nI_z2, nI_z3, nI_z4, nI_z5, nI_lt', nI_le', nI_eq', jaUI_at, jaPt_eq, jaPt_ne, jaUI_o, jaUI_2, jaUL_at, jaUL_o, jaUL_1, jaB_z, jaB_1, ↓jaB_01, Classical.not_not, and_self, true_or, or_true, nI_11, Nat.reduceEqDiff, Nat.reduceAdd, Nat.reduceMul, Nat.add_zero, Nat.zero_add, Nat.mul_zero, not_true_eq_false, not_false_eq_true, false_implies, true_implies]
  refine ⟨fun q => ?_, fun q => ⟨fun q2 => ?_, fun q2 => ?_⟩⟩
  · rwa [jaB_f (by omega)] at h
  · rwa [jaB_f (by omega)] at h
  · rwa [jaB_t (by omega)] at h
theorem sp_Rd_isDigit {D : Nat} (hD : 1 ≤ D) {kk : Int32 → jaT → Prop} {σ : jaT} {m : Nat} (hm : m < 256) (h : kk (jaB (jtD m)) σ) : jaDe D jy_Rd_isDigit [.inl (nI m)] σ (jaKi kk) := by
  obtain ⟨D, rfl, hD⟩ := jaSuc hD
  unfold jtD at h
  apply js_Rd_isDigit
  simp (disch := first | omega | decide) only [jaU_eq, jaU_U, nI_add, pk_mul, jaIx_nI, vp_inT, true_and, and_true, ↓jaO0, ↓jaO1, nI_z, nI_z2, nI_z3, nI_z4, nI_z5, nI_lt', nI_le', nI_eq', jaUI_at, jaPt_eq, jaPt_ne, jaUI_o, jaUI_2, jaUL_at, jaUL_o, jaUL_1, jaB_z, jaB_1, ↓jaB_01, Classical.not_not, and_self, true_or, or_true, nI_11, Nat.reduceEqDiff, Nat.reduceAdd, Nat.reduceMul, Nat.add_zero, Nat.zero_add, Nat.mul_zero, not_true_eq_false, not_false_eq_true, false_implies, true_implies]
  refine ⟨fun q => ?_, fun q => ⟨fun q2 => ?_, fun q2 => ?_⟩⟩
  · rwa [jaB_f (by omega)] at h
  · rwa [jaB_f (by omega)] at h
  · rwa [jaB_t (by omega)] at h
theorem jtU16 : ∀ m : Fin 256, (Int32.toUInt32 (nI m.1) % 65536).toInt32 = nI m.1 := by decide +kernel
theorem jtS9 : ∀ m : Fin 256, ∀ j : Fin 9, (Int32.ofNat (jaN 0 (jaN [] jaStr 0) j.1) = (Int32.toInt8 (nI m.1)).toInt32) ↔ jaN 0 (jaN [] jaStr 0) j.1 = m.1 := by decide +kernel
theorem jtSg_i (m : Nat) : jtSg m ↔ ∃ j, j < 9 ∧ jaN 0 (jaN [] jaStr 0) j = m := by
  constructor
  · intro h
    rcases h with h | h | h | h | h | h | h | h | h
    · exact ⟨0, by omega, h.symm⟩
    · exact ⟨1, by omega, h.symm⟩
    · exact ⟨2, by omega, h.symm⟩
    · exact ⟨3, by omega, h.symm⟩
    · exact ⟨4, by omega, h.symm⟩
    · exact ⟨5, by omega, h.symm⟩
    · exact ⟨6, by omega, h.symm⟩
    · exact ⟨7, by omega, h.symm⟩
    · exact ⟨8, by omega, h.symm⟩
  · rintro ⟨j, hj, rfl⟩
    have : ∀ j : Fin 9, jaN 0 (jaN [] jaStr 0) j.1 ∈ [59, 60, 61, 62, 43, 45, 40, 41, 46] := by decide +kernel
    have h := this ⟨j, hj⟩
    simp only [List.mem_cons, List.not_mem_nil, or_false] at h
    exact h
theorem sp_JS_indexOfS {D : Nat} (hD : 6 ≤ D) {kk : Int32 → jaT → Prop} {σ : jaT} {m : Nat} (hm : m < 256) (h1 : jtSg m → ∀ j, j < 9 → kk (nI j) σ) (h0 : ¬ jtSg m → kk (-1) σ) : jaDe D jy_JS_indexOfS [.inr (.inr (100, 23, 0)), .inl (nI m)] σ (jaKi kk) := by
  obtain ⟨D, rfl, hD⟩ := jaSuc hD
  apply js_JS_indexOfS
  obtain ⟨D4, rfl, hD4⟩ := jaSuc (show 4 + 1 ≤ D by omega)
  apply js_JS_indexOf2S
  obtain ⟨D, rfl, hD5⟩ := jaSuc (show 3 + 1 ≤ D4 by omega)
  apply js_JS_isLatin1S
  simp (disch := first | omega | decide) only [jaU_eq, jaU_U, nI_add, pk_mul, jaIx_nI, vp_inT, true_and, and_true, ↓jaO0, ↓jaO1, nI_z, nI_z2, nI_z3, nI_z4, nI_z5, nI_lt', nI_le', nI_eq', jaUI_at, jaPt_eq, jaPt_ne, jaUI_o, jaUI_2, jaUL_at, jaUL_o, jaUL_1, jaB_z, jaB_1, ↓jaB_01, Classical.not_not, and_self, true_or, or_true, nI_11, Nat.reduceEqDiff, Nat.reduceAdd, Nat.reduceMul, Nat.add_zero, Nat.zero_add, Nat.mul_zero, not_true_eq_false, not_false_eq_true, false_implies, true_implies]
  apply js_JS_lengthS
  obtain ⟨D2, rfl, hD2⟩ := jaSuc (show 1 ≤ D by omega)
  apply js_JS_coderS
  refine ⟨fun q => absurd q (by decide), fun _ => ⟨by decide, ?_⟩⟩
  rw [show (nI 9) >>> ((nI 0) &&& 31) = nI 9 by decide]
  apply js_JL_indexOf
  obtain ⟨D3, rfl, hD3⟩ := jaSuc (show 1 ≤ D2 by omega)
  apply js_JL_canEncode
  simp (disch := first | omega | decide) only [jaU_eq, jaU_U, nI_add, pk_mul, jaIx_nI, vp_inT, true_and, and_true, ↓jaO0, ↓jaO1, nI_z, nI_z2, nI_z3, nI_z4, nI_z5, nI_lt', nI_le', nI_eq', jaUI_at, jaPt_eq, jaPt_ne, jaUI_o, jaUI_2, jaUL_at, jaUL_o, jaUL_1, jaB_z, jaB_1, ↓jaB_01, Classical.not_not, and_self, true_or, or_true, nI_11, Nat.reduceEqDiff, Nat.reduceAdd, Nat.reduceMul, Nat.add_zero, Nat.zero_add, Nat.mul_zero, not_true_eq_false, not_false_eq_true, false_implies, true_implies]
  refine ⟨fun q => absurd q (by omega), fun _ => ?_⟩
  refine sp_JM_max (by omega) (by omega) (by omega) (sp_JM_min (by omega) (by omega) (by omega) ?_)
  refine ⟨fun _ => ?_, fun q => absurd (by decide) q⟩
  rw [show max 0 0 = 0 from rfl, show min 9 9 = 9 from rfl]
  apply js_JL_indexOfChar
  have L : ∀ n j, j + n = 9 → (∀ q, q < j → jaN 0 (jaN [] jaStr 0) q ≠ m) → jc_JL_indexOfChar_1 (D3 + 1) kk (nI m) (nI 0) (nI 9) ((Int32.toInt8 (nI m)).toInt32) (nI j) σ := by
    intro n
    induction n with
    | zero =>
      intro j hj hq
      apply jb_JL_indexOfChar_1
      simp (disch := first | omega | decide) only [jaU_eq, jaU_U, nI_add, pk_mul, jaIx_nI, vp_inT, true_and, and_true, ↓jaO0, ↓jaO1, nI_z, nI_z2, nI_z3, nI_z4, nI_z5, nI_lt', nI_le', nI_eq', jaUI_at, jaPt_eq, jaPt_ne, jaUI_o, jaUI_2, jaUL_at, jaUL_o, jaUL_1, jaB_z, jaB_1, ↓jaB_01, Classical.not_not, and_self, true_or, or_true, nI_11, Nat.reduceEqDiff, Nat.reduceAdd, Nat.reduceMul, Nat.add_zero, Nat.zero_add, Nat.mul_zero, not_true_eq_false, not_false_eq_true, false_implies, true_implies]
      refine ⟨fun _ => ?_, fun q => absurd (by omega) q⟩
      refine h0 (fun z => ?_)
      obtain ⟨q, h2, h3⟩ := (jtSg_i m).mp z
      exact hq q (by omega) h3
    | succ n ih =>
      intro j hj hq
      have hs := jtS9 ⟨m, hm⟩ ⟨j, by omega⟩
      apply jb_JL_indexOfChar_1
      simp (disch := first | omega | decide) only [jaU_eq, jaU_U, nI_add, pk_mul, jaIx_nI, vp_inT, true_and, and_true, ↓jaO0, ↓jaO1, nI_z, nI_z2, nI_z3, nI_z4, nI_z5, nI_lt', nI_le', nI_eq', jaUI_at, jaPt_eq, jaPt_ne, jaUI_o, jaUI_2, jaUL_at, jaUL_o, jaUL_1, jaB_z, jaB_1, ↓jaB_01, Classical.not_not, and_self, true_or, or_true, nI_11, Nat.reduceEqDiff, Nat.reduceAdd, Nat.reduceMul, Nat.add_zero, Nat.zero_add, Nat.mul_zero, not_true_eq_false, not_false_eq_true, false_implies, true_implies]
      refine ⟨fun q => absurd q (by omega), fun _ => ?_⟩
      refine ⟨fun z => ih (j + 1) (by omega) (fun q hq2 => ?_), fun z => ?_⟩
      · by_cases e : q = j
        · rw [e]
          exact fun w => z (hs.mpr w)
        · exact hq q (by omega)
      · exact h1 ((jtSg_i m).mpr ⟨j, by omega, hs.mp z⟩) j (by omega)
  exact L 9 0 rfl (fun q hq => absurd hq (by omega))
end
