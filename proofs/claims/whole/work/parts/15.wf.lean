section
/-! what holds of the reference's state at all times -/
def jWw (s : jvA) : Prop :=
  (s 0 = nI (jz s 0) ∧ jz s 0 ≤ 3) ∧ (s 1 = nI (jz s 1) ∧ jz s 1 ≤ 10) ∧ (s 2 = nI (jz s 2) ∧ 1 ≤ jz s 2 ∧ jz s 2 ≤ 3) ∧ (s 3 = nI (jz s 3) ∧ 1 ≤ jz s 3 ∧ jz s 3 ≤ 20) ∧ (s 4 = nI (jz s 4) ∧ jz s 4 ≤ 9) ∧
  (∀ k, k < jz s 1 → s (5 + k) = nI (jz s (5 + k)) ∧ jz s (5 + k) < jz s 0) ∧
  (∀ c, c < jz s 2 → s (25 + c) = nI (jz s (25 + c)) ∧ 1 ≤ jz s (25 + c) ∧ jz s (25 + c) ≤ 4 ∧ (s (28 + c) = nI 0 ∨ s (28 + c) = nI 1))
/-- a reference at a place: a key, or an 'at' -/
def jWf (k a : Nat) (d : jvA) (p : Nat) : Prop := d p = nI (jz d p) ∧ jz d p < k ∧ (d (p + 1) = -1 ∨ (d (p + 1) = nI (jz d (p + 1)) ∧ jz d (p + 1) < a))
def jWu (k a : Nat) (d : jvA) (u : Nat) : Prop := ((d u = nI 0 ∧ d (u + 1) = nI (jz d (u + 1)) ∧ jz d (u + 1) < 1000) ∨ (d u = nI 1 ∧ jWf k a d (u + 1))) ∧ (d (u + 3) = nI 0 ∨ d (u + 3) = nI 1)
def jWt (k a : Nat) (d : jvA) (t : Nat) : Prop :=
  (d t = nI 0 ∨ d t = nI 1) ∧ jWf k a d (t + 1) ∧ (d (t + 3) = nI (jz d (t + 3)) ∧ 60 ≤ jz d (t + 3) ∧ jz d (t + 3) ≤ 62) ∧ (d (t + 4) = nI (jz d (t + 4)) ∧ jz d (t + 4) ≤ 4) ∧
  ∀ x, x < jz d (t + 4) → jWu k a d (t + 5 + 4 * x)
def jWn (k : Nat) (d : jvA) (n : Nat) : Prop :=
  1 ≤ k ∧ (d (133 * n) = nI (jz d (133 * n)) ∧ jz d (133 * n) < 3) ∧ (d (133 * n + 1) = nI (jz d (133 * n + 1)) ∧ jz d (133 * n + 1) ≤ 6) ∧ (d (133 * n + 2) = nI (jz d (133 * n + 2)) ∧ jz d (133 * n + 2) ≤ 4) ∧
  (∀ j, j < jz d (133 * n + 2) → d (133 * n + 3 + j) = nI (jz d (133 * n + 3 + j)) ∧ jz d (133 * n + 3 + j) < k) ∧
  ∀ i, i < jz d (133 * n + 1) → jWt k (jz d (133 * n + 2)) d (133 * n + 7 + 21 * i)
def jWd (s d : jvA) : Prop := ∀ n, n < jz s 32 → jWn (jz s 1) d n
/-- a row of e -/
def jWi (k m : Nat) (d e : jvA) (id : Nat) : Prop :=
  (e (9 * id) = nI (jz e (9 * id)) ∧ jz e (9 * id) < m) ∧ e (9 * id + 1) = d (133 * jz e (9 * id)) ∧
  (∀ j, j < jz d (133 * jz e (9 * id) + 2) → e (9 * id + 5 + j) = nI (jz e (9 * id + 5 + j)) ∧ jz e (9 * id + 5 + j) < k) ∧
  e (9 * id + 3) = jvWs d e id (133 * jz e (9 * id)) (jz d (133 * jz e (9 * id) + 1)) ∧ (e (9 * id + 4) = nI 0 ∨ e (9 * id + 4) = nI 1)
def jWe (s d e : jvA) : Prop := ∀ id, id < jz s 33 → jWi (jz s 1) (jz s 32) d e id
def jWo (s : jvA) : Prop :=
  (s 32 = nI (jz s 32) ∧ jz s 32 ≤ 24) ∧ s 33 = nI (jz s 33) ∧ (s 34 = nI (jz s 34) ∧ jz s 34 ≤ 40) ∧ s 35 = nI (jz s 35) ∧ jz s 33 = jz s 34 + jz s 35 ∧
  jz s 33 = jz s 32 + jaCnt (fun i => s (415 + i) = nI 1) (jz s 34) ∧
  (∀ i, i < jz s 34 → s (41 + i) = nI (jz s (41 + i)) ∧ jz s (41 + i) < jz s 33) ∧
  (∀ i, i < jz s 35 → s (81 + i) = nI (jz s (81 + i)) ∧ jz s (81 + i) < jz s 33) ∧
  (∀ i j, i < j → j < jz s 35 → jz s (81 + i) < jz s (81 + j)) ∧ (∀ i j, i < j → j < jz s 34 → jz s (41 + i) ≠ jz s (41 + j)) ∧
  (∀ i j, i < jz s 34 → j < jz s 35 → jz s (41 + i) ≠ jz s (81 + j)) ∧
  ∀ i, i < 40 → (s (415 + i) = nI 0 ∨ s (415 + i) = nI 1) ∧ (jz s 34 ≤ i → s (415 + i) = nI 0)
def jWc (s : jvA) : Prop := ∀ c i, c < 3 → i < 40 → (s (175 + 40 * c + i) = nI (jz s (175 + 40 * c + i)) ∧ jz s (175 + 40 * c + i) ≤ 4) ∧ (jz s 34 ≤ i → s (175 + 40 * c + i) = nI 0) ∧
  (s (175 + 40 * c + i) = nI 1 → s (295 + 40 * c + i) = nI (jz s (295 + 40 * c + i)) ∧ 1 ≤ jz s (295 + 40 * c + i) ∧ jz s (295 + 40 * c + i) ≤ 9)
def jWk (s : jvA) : Prop :=
  ((s 36 = nI 0 ∧ s 37 = nI 0 ∧ s 38 = nI 0 ∧ s 39 = nI 0) ∨ (s 36 = nI 1 ∧ s 37 = nI (jz s 37) ∧ jz s 37 ≤ jz s 34 ∧ s 38 = nI (jz s 38) ∧ jz s 38 < jz s 1)) ∧
  (s 40 = nI (jz s 40) ∧ jz s 40 ≤ jz s 34) ∧ ∀ i, i < jz s 40 → s (485 + i) = nI (jz s (485 + i)) ∧ 2 ≤ jz s (485 + i) ∧ jz s (485 + i) ≤ 4
def jW (s d e : jvA) : Prop := jWw s ∧ jWd s d ∧ jWe s d e ∧ jWo s ∧ jWc s ∧ jWk s ∧ s 31 = nI (jz s 31)
theorem jW.w {s d e : jvA} (h : jW s d e) : jWw s := h.1
theorem jW.d {s d e : jvA} (h : jW s d e) : jWd s d := h.2.1
theorem jW.e {s d e : jvA} (h : jW s d e) : jWe s d e := h.2.2.1
theorem jW.o {s d e : jvA} (h : jW s d e) : jWo s := h.2.2.2.1
theorem jW.c {s d e : jvA} (h : jW s d e) : jWc s := h.2.2.2.2.1
theorem jW.k {s d e : jvA} (h : jW s d e) : jWk s := h.2.2.2.2.2.1
theorem jW.t {s d e : jvA} (h : jW s d e) : s 31 = nI (jz s 31) := h.2.2.2.2.2.2
theorem jWo.many {s : jvA} (h : jWo s) : s 32 = nI (jz s 32) ∧ jz s 32 ≤ 24 := h.1
theorem jWo.pool {s : jvA} (h : jWo s) : s 33 = nI (jz s 33) ∧ jz s 33 ≤ 64 := ⟨h.2.1, by
  have h1 := h.2.2.2.2.2.1
  have h2 := jaCnt_le (p := fun i => s (415 + i) = nI 1) (jz s 34)
  have h3 := h.1.2
  have h4 := h.2.2.1.2
  omega⟩
theorem jWo.ord {s : jvA} (h : jWo s) : s 34 = nI (jz s 34) ∧ jz s 34 ≤ 40 := h.2.2.1
theorem jWo.came {s : jvA} (h : jWo s) : s 35 = nI (jz s 35) ∧ jz s 35 ≤ 64 := ⟨h.2.2.2.1, by
  have h1 := h.2.2.2.2.1
  have h2 := h.pool.2
  omega⟩
theorem jWo.id {s : jvA} (h : jWo s) {i : Nat} (hi : i < jz s 34) : s (41 + i) = nI (jz s (41 + i)) ∧ jz s (41 + i) < jz s 33 := h.2.2.2.2.2.2.1 i hi
theorem jWo.come {s : jvA} (h : jWo s) {i : Nat} (hi : i < jz s 35) : s (81 + i) = nI (jz s (81 + i)) ∧ jz s (81 + i) < jz s 33 := h.2.2.2.2.2.2.2.1 i hi
/-- the reference's object -/
abbrev jaMo : jaV := .inr (.inr (70, 20, 0))
/-- frames of the reference: but sorts of a list and fields of a list all stays -/
def jaFr (A B : List Nat) (S S' : jaS) : Prop := (∀ o, o ∉ A → o ≠ 70 → S'.1 o = S.1 o ∧ S'.2 o = S.2 o) ∧ (∀ j, j ∉ B → S'.1 70 0 j = S.1 70 0 j ∧ S'.2 70 0 j = S.2 70 0 j)
theorem jaFr.rfl {A B : List Nat} {S : jaS} : jaFr A B S S := ⟨fun _ _ _ => ⟨Eq.refl _, Eq.refl _⟩, fun _ _ => ⟨Eq.refl _, Eq.refl _⟩⟩
theorem jaFr.trans {A B : List Nat} {S S' S'' : jaS} (h : jaFr A B S S') (h' : jaFr A B S' S'') : jaFr A B S S'' :=
  ⟨fun o h1 h2 => ⟨(h'.1 o h1 h2).1.trans (h.1 o h1 h2).1, (h'.1 o h1 h2).2.trans (h.1 o h1 h2).2⟩, fun j h1 => ⟨(h'.2 j h1).1.trans (h.2 j h1).1, (h'.2 j h1).2.trans (h.2 j h1).2⟩⟩
theorem jaFr.mono {A B A' B' : List Nat} {S S' : jaS} (h : jaFr A B S S') (hA : ∀ o, o ∈ A → o ∈ A') (hB : ∀ o, o ∈ B → o ∈ B') : jaFr A' B' S S' :=
  ⟨fun o h1 h2 => h.1 o (fun q => h1 (hA o q)) h2, fun j h1 => h.2 j (fun q => h1 (hB j q))⟩
theorem jaFr.s {A B : List Nat} {S S' : jaS} (h : jaFr A B S S') (o : Nat) (h1 : o ∉ A) (h2 : o ≠ 70) : S'.1 o = S.1 o := (h.1 o h1 h2).1
theorem jaFr.l {A B : List Nat} {S S' : jaS} (h : jaFr A B S S') (o : Nat) (h1 : o ∉ A) (h2 : o ≠ 70) : S'.2 o = S.2 o := (h.1 o h1 h2).2
theorem jaFr.f {A B : List Nat} {S S' : jaS} (h : jaFr A B S S') (j : Nat) (h1 : j ∉ B) : S'.1 70 0 j = S.1 70 0 j := (h.2 j h1).1
theorem jaFr.fl {A B : List Nat} {S S' : jaS} (h : jaFr A B S S') (j : Nat) (h1 : j ∉ B) : S'.2 70 0 j = S.2 70 0 j := (h.2 j h1).2
theorem jaFr.ui {A B : List Nat} {S S' : jaS} {o j : Nat} {v : Int32} (h : jaFr A B S S') (ho : o ∈ A) (h7 : o ≠ 70) : jaFr A B S (jaUI S' o 0 j v) := by
  refine ⟨fun q h1 h2 => ?_, fun i h1 => ?_⟩
  · rw [jaUI_o (fun e => h1 (by rw [e]; exact ho)), jaUI_2]
    exact h.1 q h1 h2
  · rw [jaUI_o (fun e => h7 e.symm), jaUI_2]
    exact h.2 i h1
theorem jaFr.uf {A B : List Nat} {S S' : jaS} {j : Nat} {v : Int32} (h : jaFr A B S S') (hj : j ∈ B) : jaFr A B S (jaUI S' 70 0 j v) := by
  refine ⟨fun q h1 h2 => ?_, fun i h1 => ?_⟩
  · rw [jaUI_o h2, jaUI_2]
    exact h.1 q h1 h2
  · rw [jaUI_at, jaPt_ne (fun e => h1 (by rw [e]; exact hj)), jaUI_2]
    exact h.2 i h1
/-! what only reads -/
theorem sp_M_isIn {D : Nat} (hD : 1 ≤ D) {kk : Int32 → jaT → Prop} {σ : jaT} {x a b : Int32} (h : kk (jaB (¬ x < a ∧ ¬ b < x)) σ) : jaDe D jy_M_isIn [.inl x, .inl a, .inl b] σ (jaKi kk) := by
  obtain ⟨D, rfl, hD⟩ := jaSuc hD
  apply js_M_isIn
  simp (disch := first | omega | decide) only [jaU_eq, jaU_U, nI_add, pk_mul, jaIx_nI, vp_inT, true_and, and_true, ↓jaO0, ↓jaO1, nI_z, nI_z2, nI_z3, nI_z4, nI_z5, nI_lt', nI_le', nI_eq', jaUI_at, jaPt_eq, jaPt_ne, jaUI_o, jaUI_2, jaUL_at, jaUL_o, jaUL_1, jaB_z, jaB_1, ↓jaB_01, Classical.not_not, and_self, true_or, or_true, nI_11, Nat.reduceEqDiff, Nat.reduceAdd, Nat.reduceMul, Nat.add_zero, Nat.zero_add, Nat.mul_zero, not_true_eq_false, not_false_eq_true, false_implies, true_implies]
  refine ⟨fun q => ?_, fun q => ⟨fun q2 => ?_, fun q2 => ?_⟩⟩
  · exact (jaBk h).2 (fun z => z.1 q)
  · exact (jaBk h).2 (fun z => z.2 q2)
  · exact (jaBk h).1 ⟨q, q2⟩
theorem sp_M_bitOf {D : Nat} (hD : 1 ≤ D) {kk : Int32 → jaT → Prop} {σ : jaT} {x : Int32} {k : Nat} (h : kk (jaB (jaBt x k)) σ) : jaDe D jy_M_bitOf [.inl x, .inl (nI k)] σ (jaKi kk) := by
  obtain ⟨D, rfl, hD⟩ := jaSuc hD
  apply js_M_bitOf
  simp (disch := first | omega | decide) only [jaU_eq, jaU_U, nI_add, pk_mul, jaIx_nI, vp_inT, true_and, and_true, ↓jaO0, ↓jaO1, nI_z, nI_z2, nI_z3, nI_z4, nI_z5, nI_lt', nI_le', nI_eq', jaUI_at, jaPt_eq, jaPt_ne, jaUI_o, jaUI_2, jaUL_at, jaUL_o, jaUL_1, jaB_z, jaB_1, ↓jaB_01, Classical.not_not, and_self, true_or, or_true, nI_11, Nat.reduceEqDiff, Nat.reduceAdd, Nat.reduceMul, Nat.add_zero, Nat.zero_add, Nat.mul_zero, not_true_eq_false, not_false_eq_true, false_implies, true_implies]
  refine ⟨fun q => ?_, fun q => ?_⟩
  · exact (jaBk h).2 q
  · exact (jaBk h).1 q
theorem sp_M_greater {D : Nat} (hD : 1 ≤ D) {kk : Int32 → jaT → Prop} {σ : jaT} {a b : Nat} (ha : a < 2147483648) (hb : b < 2147483648) (h : kk (nI (max a b)) σ) : jaDe D jy_M_greater [.inl (nI a), .inl (nI b)] σ (jaKi kk) := by
  obtain ⟨D, rfl, hD⟩ := jaSuc hD
  apply js_M_greater
  simp (disch := first | omega | decide) only [jaU_eq, jaU_U, nI_add, pk_mul, jaIx_nI, vp_inT, true_and, and_true, ↓jaO0, ↓jaO1, nI_z, nI_z2, nI_z3, nI_z4, nI_z5, nI_lt', nI_le', nI_eq', jaUI_at, jaPt_eq, jaPt_ne, jaUI_o, jaUI_2, jaUL_at, jaUL_o, jaUL_1, jaB_z, jaB_1, ↓jaB_01, Classical.not_not, and_self, true_or, or_true, nI_11, Nat.reduceEqDiff, Nat.reduceAdd, Nat.reduceMul, Nat.add_zero, Nat.zero_add, Nat.mul_zero, not_true_eq_false, not_false_eq_true, false_implies, true_implies]
  refine ⟨fun q => ?_, fun q => ?_⟩
  · rwa [Nat.max_eq_right q] at h
  · rwa [Nat.max_eq_left (by omega)] at h
theorem sp_M_idAt {D : Nat} (hD : 1 ≤ D) {kk : Int32 → jaT → Prop} {σ : jaT} {S : jaS} {s : jvA} (hs : S.1 72 0 = s) {i : Nat} (hi : i < 600) (h : kk (s (41 + i)) (jaU σ 20 S)) : jaDe D jy_M_idAt [jaMo, .inl (nI i)] (jaU σ 20 S) (jaKi kk) := by
  obtain ⟨D, rfl, hD⟩ := jaSuc hD
  apply js_M_idAt
  simp (disch := first | omega | decide) only [jaU_eq, jaU_U, nI_add, pk_mul, jaIx_nI, vp_inT, true_and, and_true, ↓jaO0, ↓jaO1, nI_z, nI_z2, nI_z3, nI_z4, nI_z5, nI_lt', nI_le', nI_eq', jaUI_at, jaPt_eq, jaPt_ne, jaUI_o, jaUI_2, jaUL_at, jaUL_o, jaUL_1, jaB_z, jaB_1, ↓jaB_01, Classical.not_not, and_self, true_or, or_true, nI_11, Nat.reduceEqDiff, Nat.reduceAdd, Nat.reduceMul, Nat.add_zero, Nat.zero_add, Nat.mul_zero, not_true_eq_false, not_false_eq_true, false_implies, true_implies, hs]
  exact h
theorem sp_M_readsOf {D : Nat} (hD : 2 ≤ D) {kk : Int32 → jaT → Prop} {σ : jaT} {S : jaS} {s e : jvA} (hs : S.1 72 0 = s) (he : S.1 76 0 = e) {i q : Nat} (hi : i < 600) (hq : s (41 + i) = nI q) (h64 : q < 64) (h : kk (e (9 * q + 2)) (jaU σ 20 S)) : jaDe D jy_M_readsOf [jaMo, .inl (nI i)] (jaU σ 20 S) (jaKi kk) := by
  obtain ⟨D, rfl, hD⟩ := jaSuc hD
  apply js_M_readsOf
  apply sp_M_idAt (by omega) hs hi
  simp (disch := first | omega | decide) only [jaU_eq, jaU_U, nI_add, pk_mul, jaIx_nI, vp_inT, true_and, and_true, ↓jaO0, ↓jaO1, nI_z, nI_z2, nI_z3, nI_z4, nI_z5, nI_lt', nI_le', nI_eq', jaUI_at, jaPt_eq, jaPt_ne, jaUI_o, jaUI_2, jaUL_at, jaUL_o, jaUL_1, jaB_z, jaB_1, ↓jaB_01, Classical.not_not, and_self, true_or, or_true, nI_11, Nat.reduceEqDiff, Nat.reduceAdd, Nat.reduceMul, Nat.add_zero, Nat.zero_add, Nat.mul_zero, not_true_eq_false, not_false_eq_true, false_implies, true_implies, hs, he, hq]
  exact h
theorem sp_M_writesOf {D : Nat} (hD : 2 ≤ D) {kk : Int32 → jaT → Prop} {σ : jaT} {S : jaS} {s e : jvA} (hs : S.1 72 0 = s) (he : S.1 76 0 = e) {i q : Nat} (hi : i < 600) (hq : s (41 + i) = nI q) (h64 : q < 64) (h : kk (e (9 * q + 3)) (jaU σ 20 S)) : jaDe D jy_M_writesOf [jaMo, .inl (nI i)] (jaU σ 20 S) (jaKi kk) := by
  obtain ⟨D, rfl, hD⟩ := jaSuc hD
  apply js_M_writesOf
  apply sp_M_idAt (by omega) hs hi
  simp (disch := first | omega | decide) only [jaU_eq, jaU_U, nI_add, pk_mul, jaIx_nI, vp_inT, true_and, and_true, ↓jaO0, ↓jaO1, nI_z, nI_z2, nI_z3, nI_z4, nI_z5, nI_lt', nI_le', nI_eq', jaUI_at, jaPt_eq, jaPt_ne, jaUI_o, jaUI_2, jaUL_at, jaUL_o, jaUL_1, jaB_z, jaB_1, ↓jaB_01, Classical.not_not, and_self, true_or, or_true, nI_11, Nat.reduceEqDiff, Nat.reduceAdd, Nat.reduceMul, Nat.add_zero, Nat.zero_add, Nat.mul_zero, not_true_eq_false, not_false_eq_true, false_implies, true_implies, hs, he, hq]
  exact h
theorem sp_M_isWide {D : Nat} (hD : 2 ≤ D) {kk : Int32 → jaT → Prop} {σ : jaT} {S : jaS} {s e : jvA} (hs : S.1 72 0 = s) (he : S.1 76 0 = e) {i : Nat} (hi : i < 600) (hq : s (41 + i) = nI (jvId s i)) (h64 : jvId s i < 64) (h : kk (jaB (jvWd s e i)) (jaU σ 20 S)) : jaDe D jy_M_isWide [jaMo, .inl (nI i)] (jaU σ 20 S) (jaKi kk) := by
  obtain ⟨D, rfl, hD⟩ := jaSuc hD
  apply js_M_isWide
  apply sp_M_idAt (by omega) hs hi
  simp (disch := first | omega | decide) only [jaU_eq, jaU_U, nI_add, pk_mul, jaIx_nI, vp_inT, true_and, and_true, ↓jaO0, ↓jaO1, nI_z, nI_z2, nI_z3, nI_z4, nI_z5, nI_lt', nI_le', nI_eq', jaUI_at, jaPt_eq, jaPt_ne, jaUI_o, jaUI_2, jaUL_at, jaUL_o, jaUL_1, jaB_z, jaB_1, ↓jaB_01, Classical.not_not, and_self, true_or, or_true, nI_11, Nat.reduceEqDiff, Nat.reduceAdd, Nat.reduceMul, Nat.add_zero, Nat.zero_add, Nat.mul_zero, not_true_eq_false, not_false_eq_true, false_implies, true_implies, hs, he, hq]
  refine ⟨fun q => ?_, fun q => ?_⟩
  · exact (jaBk h).2 q
  · exact (jaBk h).1 q
theorem sp_M_isLong {D : Nat} (hD : 3 ≤ D) {kk : Int32 → jaT → Prop} {σ : jaT} {S : jaS} {s e : jvA} (hs : S.1 72 0 = s) (he : S.1 76 0 = e) {i : Nat} (hi : i < 600) (hq : s (41 + i) = nI (jvId s i)) (h64 : jvId s i < 64) (h : kk (jaB (jvLg s e i)) (jaU σ 20 S)) : jaDe D jy_M_isLong [jaMo, .inl (nI i)] (jaU σ 20 S) (jaKi kk) := by
  obtain ⟨D, rfl, hD⟩ := jaSuc hD
  apply js_M_isLong
  apply sp_M_isWide (by omega) hs he hi hq h64
  simp (disch := first | omega | decide) only [jaU_eq, jaU_U, nI_add, pk_mul, jaIx_nI, vp_inT, true_and, and_true, ↓jaO0, ↓jaO1, nI_z, nI_z2, nI_z3, nI_z4, nI_z5, nI_lt', nI_le', nI_eq', jaUI_at, jaPt_eq, jaPt_ne, jaUI_o, jaUI_2, jaUL_at, jaUL_o, jaUL_1, jaB_z, jaB_1, ↓jaB_01, Classical.not_not, and_self, true_or, or_true, nI_11, Nat.reduceEqDiff, Nat.reduceAdd, Nat.reduceMul, Nat.add_zero, Nat.zero_add, Nat.mul_zero, not_true_eq_false, not_false_eq_true, false_implies, true_implies, hs, he]
  refine ⟨fun q => ?_, fun q => ⟨fun q2 => ?_, fun q2 => ?_⟩⟩
  · exact (jaBk h).2 (fun z => q z.1)
  · exact (jaBk h).2 (fun z => z.2 q2)
  · exact (jaBk h).1 ⟨q, q2⟩
theorem sp_M_areConflict {D : Nat} (hD : 3 ≤ D) {kk : Int32 → jaT → Prop} {σ : jaT} {S : jaS} {s e : jvA} (hs : S.1 72 0 = s) (he : S.1 76 0 = e) {i j : Nat} (hi : i < 600) (hj : j < 600) (hq : s (41 + i) = nI (jvId s i)) (h64 : jvId s i < 64) (hq' : s (41 + j) = nI (jvId s j)) (h64' : jvId s j < 64) (h : kk (jaB (jvCf s e i j)) (jaU σ 20 S)) : jaDe D jy_M_areConflict [jaMo, .inl (nI i), .inl (nI j)] (jaU σ 20 S) (jaKi kk) := by
  obtain ⟨D, rfl, hD⟩ := jaSuc hD
  apply js_M_areConflict
  apply sp_M_writesOf (by omega) hs he hi hq h64
  apply sp_M_readsOf (by omega) hs he hj hq' h64'
  apply sp_M_writesOf (by omega) hs he hj hq' h64'
  apply sp_M_readsOf (by omega) hs he hi hq h64
  apply sp_M_writesOf (by omega) hs he hj hq' h64'
  simp (disch := first | omega | decide) only [jaU_eq, jaU_U, nI_add, pk_mul, jaIx_nI, vp_inT, true_and, and_true, ↓jaO0, ↓jaO1, nI_z, nI_z2, nI_z3, nI_z4, nI_z5, nI_lt', nI_le', nI_eq', jaUI_at, jaPt_eq, jaPt_ne, jaUI_o, jaUI_2, jaUL_at, jaUL_o, jaUL_1, jaB_z, jaB_1, ↓jaB_01, Classical.not_not, and_self, true_or, or_true, nI_11, Nat.reduceEqDiff, Nat.reduceAdd, Nat.reduceMul, Nat.add_zero, Nat.zero_add, Nat.mul_zero, not_true_eq_false, not_false_eq_true, false_implies, true_implies, hs, he]
  refine ⟨fun q => ?_, fun q => ?_⟩
  · exact (jaBk h).2 (fun z => z q)
  · exact (jaBk h).1 q
theorem sp_M_howIn {D : Nat} (hD : 1 ≤ D) {kk : Int32 → jaT → Prop} {σ : jaT} {S : jaS} {s : jvA} (hs : S.1 72 0 = s) {c i : Nat} (hc : c < 3) (hi : i < 40) (h : kk (s (175 + 40 * c + i)) (jaU σ 20 S)) : jaDe D jy_M_howIn [jaMo, .inl (nI c), .inl (nI i)] (jaU σ 20 S) (jaKi kk) := by
  obtain ⟨D, rfl, hD⟩ := jaSuc hD
  apply js_M_howIn
  simp (disch := first | omega | decide) only [jaU_eq, jaU_U, nI_add, pk_mul, jaIx_nI, vp_inT, true_and, and_true, ↓jaO0, ↓jaO1, nI_z, nI_z2, nI_z3, nI_z4, nI_z5, nI_lt', nI_le', nI_eq', jaUI_at, jaPt_eq, jaPt_ne, jaUI_o, jaUI_2, jaUL_at, jaUL_o, jaUL_1, jaB_z, jaB_1, ↓jaB_01, Classical.not_not, and_self, true_or, or_true, nI_11, Nat.reduceEqDiff, Nat.reduceAdd, Nat.reduceMul, Nat.add_zero, Nat.zero_add, Nat.mul_zero, not_true_eq_false, not_false_eq_true, false_implies, true_implies, hs]
  exact h
theorem sp_M_isOver {D : Nat} (hD : 2 ≤ D) {kk : Int32 → jaT → Prop} {σ : jaT} {S : jaS} {s : jvA} (hs : S.1 72 0 = s) {c i : Nat} (hc : c < 3) (hi : i < 40) (h : kk (jaB (jvOv s c i)) (jaU σ 20 S)) : jaDe D jy_M_isOver [jaMo, .inl (nI c), .inl (nI i)] (jaU σ 20 S) (jaKi kk) := by
  obtain ⟨D, rfl, hD⟩ := jaSuc hD
  apply js_M_isOver
  apply sp_M_howIn (by omega) hs hc hi
  simp (disch := first | omega | decide) only [jaU_eq, jaU_U, nI_add, pk_mul, jaIx_nI, vp_inT, true_and, and_true, ↓jaO0, ↓jaO1, nI_z, nI_z2, nI_z3, nI_z4, nI_z5, nI_lt', nI_le', nI_eq', jaUI_at, jaPt_eq, jaPt_ne, jaUI_o, jaUI_2, jaUL_at, jaUL_o, jaUL_1, jaB_z, jaB_1, ↓jaB_01, Classical.not_not, and_self, true_or, or_true, nI_11, Nat.reduceEqDiff, Nat.reduceAdd, Nat.reduceMul, Nat.add_zero, Nat.zero_add, Nat.mul_zero, not_true_eq_false, not_false_eq_true, false_implies, true_implies, hs]
  refine ⟨fun q => ?_, fun q => ?_⟩
  · exact (jaBk h).2 (fun z => z q)
  · exact (jaBk h).1 q
/-- the ids of places below n -/
def jWid (s : jvA) (n : Nat) : Prop := ∀ i, i < n → s (41 + i) = nI (jvId s i) ∧ jvId s i < 64
theorem jWo.ids {s : jvA} (h : jWo s) : jWid s (jz s 34) := fun i hi => ⟨(h.id hi).1, by have := (h.id hi).2; have := h.pool.2; show jz s (41 + i) < 64; omega⟩
theorem sp_M_aheadOf {D : Nat} (hD : 4 ≤ D) {kk : Int32 → jaT → Prop} {σ : jaT} {S : jaS} {s e : jvA} (hs : S.1 72 0 = s) (he : S.1 76 0 = e) {c i : Nat} (hc : c < 3) (hi : i < 40) (hw : jWid s (i + 1)) (h : kk (nI (jvAh s e c i i)) (jaU σ 20 S)) : jaDe D jy_M_aheadOf [jaMo, .inl (nI c), .inl (nI i)] (jaU σ 20 S) (jaKi kk) := by
  obtain ⟨D, rfl, hD⟩ := jaSuc hD
  apply js_M_aheadOf
  refine jaFor (C := fun j => jc_M_aheadOf_1 D kk (nI c) (nI i) (nI (jvAh s e c i j)) (nI j) (jaU σ 20 S)) (N := i) ?_ (fun j hj ih => ?_)
  · apply jb_M_aheadOf_1
    simp (disch := first | omega | decide) only [jaU_eq, jaU_U, nI_add, pk_mul, jaIx_nI, vp_inT, true_and, and_true, ↓jaO0, ↓jaO1, nI_z, nI_z2, nI_z3, nI_z4, nI_z5, nI_lt', nI_le', nI_eq', jaUI_at, jaPt_eq, jaPt_ne, jaUI_o, jaUI_2, jaUL_at, jaUL_o, jaUL_1, jaB_z, jaB_1, ↓jaB_01, Classical.not_not, and_self, true_or, or_true, nI_11, Nat.reduceEqDiff, Nat.reduceAdd, Nat.reduceMul, Nat.add_zero, Nat.zero_add, Nat.mul_zero, not_true_eq_false, not_false_eq_true, false_implies, true_implies, hs, he]
    refine ⟨fun _ => ?_, fun q => absurd (by omega) q⟩
    exact h
  · apply jb_M_aheadOf_1
    simp (disch := first | omega | decide) only [jaU_eq, jaU_U, nI_add, pk_mul, jaIx_nI, vp_inT, true_and, and_true, ↓jaO0, ↓jaO1, nI_z, nI_z2, nI_z3, nI_z4, nI_z5, nI_lt', nI_le', nI_eq', jaUI_at, jaPt_eq, jaPt_ne, jaUI_o, jaUI_2, jaUL_at, jaUL_o, jaUL_1, jaB_z, jaB_1, ↓jaB_01, Classical.not_not, and_self, true_or, or_true, nI_11, Nat.reduceEqDiff, Nat.reduceAdd, Nat.reduceMul, Nat.add_zero, Nat.zero_add, Nat.mul_zero, not_true_eq_false, not_false_eq_true, false_implies, true_implies, hs, he]
    refine ⟨fun q => absurd q (by omega), fun _ => ?_⟩
    apply sp_M_isOver (by omega) hs hc (by omega)
    simp (disch := first | omega | decide) only [jaU_eq, jaU_U, nI_add, pk_mul, jaIx_nI, vp_inT, true_and, and_true, ↓jaO0, ↓jaO1, nI_z, nI_z2, nI_z3, nI_z4, nI_z5, nI_lt', nI_le', nI_eq', jaUI_at, jaPt_eq, jaPt_ne, jaUI_o, jaUI_2, jaUL_at, jaUL_o, jaUL_1, jaB_z, jaB_1, ↓jaB_01, Classical.not_not, and_self, true_or, or_true, nI_11, Nat.reduceEqDiff, Nat.reduceAdd, Nat.reduceMul, Nat.add_zero, Nat.zero_add, Nat.mul_zero, not_true_eq_false, not_false_eq_true, false_implies, true_implies, hs, he]
    refine ⟨fun q => ?_, fun q => ?_⟩
    · rw [jvAh, jaCnt_f] at ih
      · exact ih
      · exact fun z => z.1 q
    · apply sp_M_areConflict (by omega) hs he (by omega) (by omega) (hw i (by omega)).1 (hw i (by omega)).2 (hw j (by omega)).1 (hw j (by omega)).2
      simp (disch := first | omega | decide) only [jaU_eq, jaU_U, nI_add, pk_mul, jaIx_nI, vp_inT, true_and, and_true, ↓jaO0, ↓jaO1, nI_z, nI_z2, nI_z3, nI_z4, nI_z5, nI_lt', nI_le', nI_eq', jaUI_at, jaPt_eq, jaPt_ne, jaUI_o, jaUI_2, jaUL_at, jaUL_o, jaUL_1, jaB_z, jaB_1, ↓jaB_01, Classical.not_not, and_self, true_or, or_true, nI_11, Nat.reduceEqDiff, Nat.reduceAdd, Nat.reduceMul, Nat.add_zero, Nat.zero_add, Nat.mul_zero, not_true_eq_false, not_false_eq_true, false_implies, true_implies, hs, he]
      refine ⟨fun q2 => ?_, fun q2 => ?_⟩
      · rw [jvAh, jaCnt_f] at ih
        · exact ih
        · exact fun z => q2 z.2
      · rw [jvAh, jaCnt_t] at ih
        · exact ih
        · exact ⟨q, q2⟩
theorem sp_M_isReady {D : Nat} (hD : 5 ≤ D) {kk : Int32 → jaT → Prop} {σ : jaT} {S : jaS} {s e : jvA} (hs : S.1 72 0 = s) (he : S.1 76 0 = e) {c i : Nat} (hc : c < 3) (hi : i < 40) (hw : jWid s (i + 1)) (h : kk (jaB (jvRdy s e c i)) (jaU σ 20 S)) : jaDe D jy_M_isReady [jaMo, .inl (nI c), .inl (nI i)] (jaU σ 20 S) (jaKi kk) := by
  obtain ⟨D, rfl, hD⟩ := jaSuc hD
  apply js_M_isReady
  apply sp_M_howIn (by omega) hs hc hi
  refine ⟨fun q => ?_, fun q => ?_⟩
  · simp (disch := first | omega | decide) only [jaU_eq, jaU_U, nI_add, pk_mul, jaIx_nI, vp_inT, true_and, and_true, ↓jaO0, ↓jaO1, nI_z, nI_z2, nI_z3, nI_z4, nI_z5, nI_lt', nI_le', nI_eq', jaUI_at, jaPt_eq, jaPt_ne, jaUI_o, jaUI_2, jaUL_at, jaUL_o, jaUL_1, jaB_z, jaB_1, ↓jaB_01, Classical.not_not, and_self, true_or, or_true, nI_11, Nat.reduceEqDiff, Nat.reduceAdd, Nat.reduceMul, Nat.add_zero, Nat.zero_add, Nat.mul_zero, not_true_eq_false, not_false_eq_true, false_implies, true_implies, hs, he]
    exact (jaBk h).2 (fun z => q z.1)
  · apply sp_M_aheadOf (by omega) hs he hc hi hw
    have hle : jvAh s e c i i ≤ i := jaCnt_le i
    simp (disch := first | omega | decide) only [jaU_eq, jaU_U, nI_add, pk_mul, jaIx_nI, vp_inT, true_and, and_true, ↓jaO0, ↓jaO1, nI_z, nI_z2, nI_z3, nI_z4, nI_z5, nI_lt', nI_le', nI_eq', jaUI_at, jaPt_eq, jaPt_ne, jaUI_o, jaUI_2, jaUL_at, jaUL_o, jaUL_1, jaB_z, jaB_1, ↓jaB_01, Classical.not_not, and_self, true_or, or_true, nI_11, Nat.reduceEqDiff, Nat.reduceAdd, Nat.reduceMul, Nat.add_zero, Nat.zero_add, Nat.mul_zero, not_true_eq_false, not_false_eq_true, false_implies, true_implies, hs, he]
    refine ⟨fun q2 => ?_, fun q2 => ?_⟩
    · exact (jaBk h).2 (fun z => q2 z.2)
    · exact (jaBk h).1 ⟨q, q2⟩
theorem sp_M_areOver {D : Nat} (hD : 3 ≤ D) {kk : Int32 → jaT → Prop} {σ : jaT} {S : jaS} {s : jvA} (hs : S.1 72 0 = s) {c n : Nat} (hc : c < 3) (hn : n ≤ 40) (h : kk (jaB (jvAo s c n)) (jaU σ 20 S)) : jaDe D jy_M_areOver [jaMo, .inl (nI c), .inl (nI n)] (jaU σ 20 S) (jaKi kk) := by
  obtain ⟨D, rfl, hD⟩ := jaSuc hD
  apply js_M_areOver
  have h0 : jc_M_areOver_1 D kk (nI c) (nI n) (jaB (jvAo s c 0)) (nI 0) (jaU σ 20 S) := by
    refine jaFor (C := fun j => jc_M_areOver_1 D kk (nI c) (nI n) (jaB (jvAo s c j)) (nI j) (jaU σ 20 S)) (N := n) ?_ (fun j hj ih => ?_)
    · apply jb_M_areOver_1
      simp (disch := first | omega | decide) only [jaU_eq, jaU_U, nI_add, pk_mul, jaIx_nI, vp_inT, true_and, and_true, ↓jaO0, ↓jaO1, nI_z, nI_z2, nI_z3, nI_z4, nI_z5, nI_lt', nI_le', nI_eq', jaUI_at, jaPt_eq, jaPt_ne, jaUI_o, jaUI_2, jaUL_at, jaUL_o, jaUL_1, jaB_z, jaB_1, ↓jaB_01, Classical.not_not, and_self, true_or, or_true, nI_11, Nat.reduceEqDiff, Nat.reduceAdd, Nat.reduceMul, Nat.add_zero, Nat.zero_add, Nat.mul_zero, not_true_eq_false, not_false_eq_true, false_implies, true_implies, hs]
      refine ⟨fun _ => ?_, fun q => absurd (by omega) q⟩
      exact h
    · apply jb_M_areOver_1
      simp (disch := first | omega | decide) only [jaU_eq, jaU_U, nI_add, pk_mul, jaIx_nI, vp_inT, true_and, and_true, ↓jaO0, ↓jaO1, nI_z, nI_z2, nI_z3, nI_z4, nI_z5, nI_lt', nI_le', nI_eq', jaUI_at, jaPt_eq, jaPt_ne, jaUI_o, jaUI_2, jaUL_at, jaUL_o, jaUL_1, jaB_z, jaB_1, ↓jaB_01, Classical.not_not, and_self, true_or, or_true, nI_11, Nat.reduceEqDiff, Nat.reduceAdd, Nat.reduceMul, Nat.add_zero, Nat.zero_add, Nat.mul_zero, not_true_eq_false, not_false_eq_true, false_implies, true_implies, hs]
      refine ⟨fun q => absurd q (by omega), fun _ => ?_⟩
      refine ⟨fun q => ?_, fun q => ?_⟩
      · rw [jaB_f] at ih
        · exact ih
        · exact fun z => q fun i hi => z i (by omega)
      · apply sp_M_isOver (by omega) hs hc (by omega)
        simp (disch := first | omega | decide) only [jaU_eq, jaU_U, nI_add, pk_mul, jaIx_nI, vp_inT, true_and, and_true, ↓jaO0, ↓jaO1, nI_z, nI_z2, nI_z3, nI_z4, nI_z5, nI_lt', nI_le', nI_eq', jaUI_at, jaPt_eq, jaPt_ne, jaUI_o, jaUI_2, jaUL_at, jaUL_o, jaUL_1, jaB_z, jaB_1, ↓jaB_01, Classical.not_not, and_self, true_or, or_true, nI_11, Nat.reduceEqDiff, Nat.reduceAdd, Nat.reduceMul, Nat.add_zero, Nat.zero_add, Nat.mul_zero, not_true_eq_false, not_false_eq_true, false_implies, true_implies, hs]
        refine ⟨fun q2 => ?_, fun q2 => ?_⟩
        · rw [jaB_f] at ih
          · exact ih
          · exact fun z => q2 (z j (by omega))
        · rw [jaB_t] at ih
          · exact ih
          · exact fun i hi => if e : i = j then (by rw [e]; exact q2) else q i (by omega)
  rw [jaB_t] at h0
  · exact h0
  · exact fun i hi => absurd hi (by omega)
end
