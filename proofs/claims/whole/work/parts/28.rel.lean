section
/-! a state of the class stands for rows of the reference -/
/-- a reference, a term, as the class has them -/
noncomputable def jcRef (d : jvA) (q : Nat) : Nat := jaIf1 (0 ≤ d (q + 1)) (2000 + jz d (q + 1)) (1000 + jz d q)
noncomputable def jcPl (d : jvA) (u : Nat) : Nat := jaIf1 (d u = 0) (jz d (u + 1)) (jcRef d (u + 1))
noncomputable def jcTm (d : jvA) (u : Nat) : Int32 := jaIf1 (d (u + 3) = nI 1) ((-1 : Int32) - nI (jcPl d u)) (nI (jcPl d u))
/-- a step, a transaction -/
def jRq (C d : jvA) (p t : Nat) : Prop := C p = jaIf1 (d t = nI 1) (d (t + 3)) (nI 0) ∧ C (p + 1) = nI (jcRef d (t + 1)) ∧ C (p + 2) = d (t + 4) ∧ ∀ x, x < jz d (t + 4) → C (p + 3 + x) = jcTm d (t + 5 + 4 * x)
def jRt (S : jaS) (d : jvA) (n : Nat) : Prop := S.1 55 0 n = d (133 * n) ∧ S.1 56 0 n = d (133 * n + 1) ∧ S.1 57 0 n = d (133 * n + 2) ∧ (∀ j, j < jz d (133 * n + 2) → S.1 58 0 (4 * n + j) = d (133 * n + 3 + j)) ∧ ∀ i, i < jz d (133 * n + 1) → jRq (S.1 59 0) d (42 * n + 7 * i) (133 * n + 7 + 21 * i)
def jRs (S : jaS) (s d : jvA) : Prop := S.1 54 0 0 = s 32 ∧ ∀ n, n < jz s 32 → jRt S d n
def jRw (S : jaS) (s : jvA) : Prop := (S.1 30 0 0 = s 0 ∧ S.1 30 0 1 = s 1 ∧ S.1 30 0 2 = s 2 ∧ S.1 30 0 3 = s 3 ∧ S.1 30 0 4 = s 4) ∧ (∀ k, k < jz s 1 → S.1 31 0 k = s (5 + k) ∧ S.1 32 0 k = s (15 + k)) ∧ (∀ c, c < jz s 2 → S.1 33 0 c = s (25 + c) ∧ S.1 34 0 c = s (28 + c)) ∧ ∀ c, c < 3 → S.1 34 0 c = 0 ∨ S.1 34 0 c = 1
/-- an entry's row, all of them -/
def jRi (S : jaS) (d e : jvA) (id : Nat) : Prop := S.1 61 0 id = e (9 * id) ∧ S.1 62 0 id = e (9 * id + 2) ∧ S.1 63 0 id = e (9 * id + 3) ∧ S.1 64 0 id = e (9 * id + 4) ∧ ∀ j, j < jz d (133 * jz e (9 * id) + 2) → S.1 67 0 (4 * id + j) = e (9 * id + 5 + j)
def jRo (S : jaS) (s : jvA) : Prop := S.1 60 0 0 = s 33 ∧ S.1 60 0 1 = s 34 ∧ (∀ i, i < jz s 34 → S.1 68 0 i = s (41 + i) ∧ S.1 65 0 (jz s (41 + i)) = s (415 + i) ∧ ¬ S.1 66 0 (jz s (41 + i)) = -1) ∧ ∀ i, i < jz s 35 → S.1 65 0 (jz s (81 + i)) = nI 0 ∧ S.1 66 0 (jz s (81 + i)) = -1
def jRe (S : jaS) (s d e : jvA) : Prop := ∀ id, id < jz s 33 → jRi S d e id
def jRc1 (S : jaS) (s : jvA) (c : Nat) : Prop := (∀ k, k < jz s 1 → S.1 51 c k = s (145 + 10 * c + k)) ∧ ∀ i, i < jz s 34 → S.1 52 c i = s (175 + 40 * c + i) ∧ (s (175 + 40 * c + i) = nI 1 → S.1 53 c i = s (295 + 40 * c + i))
def jRc (S : jaS) (s : jvA) : Prop := ∀ c, c < jz s 2 → jRc1 S s c
def jRk (S : jaS) (s : jvA) : Prop := S.1 44 0 0 = s 36 ∧ (s 36 = nI 1 → (S.1 44 0 1 = s 37 ∧ S.1 44 0 2 = s 38 ∧ S.1 44 0 3 = s 39) ∧ (∀ k, k < jz s 1 → jaBt (s 39) k → S.1 45 0 k = s (455 + k)) ∧ ∀ k, k < jz s 38 → S.1 46 0 k = s (465 + k)) ∧
  S.1 44 0 6 = s 40 ∧ (∀ k, k < jz s 1 → S.1 47 0 k = s (475 + k)) ∧ ∀ i, i < jz s 40 → S.1 48 0 i = s (485 + i)
/-- who has no place has only arrived -/
def jRp (S : jaS) (s : jvA) : Prop := ∀ id, id < jz s 33 → S.1 66 0 id = -1 → ∃ j, j < jz s 35 ∧ jz s (81 + j) = id
def jR (S : jaS) (x : jvX) : Prop := jRw S x.1 ∧ jRs S x.1 x.2.1 ∧ jRe S x.1 x.2.1 x.2.2 ∧ jRo S x.1 ∧ jRc S x.1 ∧ jRk S x.1 ∧ S.1 40 0 5 = x.1 31 ∧ jRp S x.1
theorem jR.w {S : jaS} {x : jvX} (h : jR S x) : jRw S x.1 := h.1
theorem jR.s {S : jaS} {x : jvX} (h : jR S x) : jRs S x.1 x.2.1 := h.2.1
theorem jR.e {S : jaS} {x : jvX} (h : jR S x) : jRe S x.1 x.2.1 x.2.2 := h.2.2.1
theorem jR.o {S : jaS} {x : jvX} (h : jR S x) : jRo S x.1 := h.2.2.2.1
theorem jR.c {S : jaS} {x : jvX} (h : jR S x) : jRc S x.1 := h.2.2.2.2.1
theorem jR.k {S : jaS} {x : jvX} (h : jR S x) : jRk S x.1 := h.2.2.2.2.2.1
theorem jR.t {S : jaS} {x : jvX} (h : jR S x) : S.1 40 0 5 = x.1 31 := h.2.2.2.2.2.2.1
theorem jR.p {S : jaS} {x : jvX} (h : jR S x) : jRp S x.1 := h.2.2.2.2.2.2.2
theorem jRp_S {S S' : jaS} {s : jvA} (h : S'.1 66 = S.1 66) (hR : jRp S s) : jRp S' s := by
  unfold jRp
  rw [h]
  exact hR
theorem jRp_c {S : jaS} {s s' : jvA} (h : ∀ j, (33 ≤ j ∧ j < 36) ∨ (81 ≤ j ∧ j < 145) → s' j = s j) (hC : jz s 35 ≤ 64) (hR : jRp S s) : jRp S s' := by
  intro id hid h2
  rw [jz_c (h 33 (by omega))] at hid
  obtain ⟨j, h3, h4⟩ := hR id hid h2
  exact ⟨j, by rw [jz_c (h 35 (by omega))]; exact h3, by rw [jz_c (h (81 + j) (by omega))]; exact h4⟩
/-- what the class's cells of a sort must keep for each part -/
theorem jRw_S {S S' : jaS} {s : jvA} (h : ∀ o, 30 ≤ o → o < 35 → S'.1 o = S.1 o) (hR : jRw S s) : jRw S' s := by
  unfold jRw
  rw [h 30 (by decide) (by decide), h 31 (by decide) (by decide), h 32 (by decide) (by decide), h 33 (by decide) (by decide), h 34 (by decide) (by decide)]
  exact hR
theorem jRt_S {S S' : jaS} {d : jvA} {n : Nat} (h : ∀ o, 55 ≤ o → o < 60 → S'.1 o = S.1 o) (hR : jRt S d n) : jRt S' d n := by
  unfold jRt
  rw [h 55 (by decide) (by decide), h 56 (by decide) (by decide), h 57 (by decide) (by decide), h 58 (by decide) (by decide), h 59 (by decide) (by decide)]
  exact hR
theorem jRs_S {S S' : jaS} {s d : jvA} (h : ∀ o, 54 ≤ o → o < 60 → S'.1 o = S.1 o) (hR : jRs S s d) : jRs S' s d :=
  ⟨by rw [h 54 (by decide) (by decide)]; exact hR.1, fun n hn => jRt_S (fun o h1 h2 => h o (by omega) h2) (hR.2 n hn)⟩
theorem jRe_S {S S' : jaS} {s d e : jvA} (h : ∀ o, 61 ≤ o → o < 65 ∨ o = 67 → S'.1 o = S.1 o) (hR : jRe S s d e) : jRe S' s d e := by
  intro id hid
  unfold jRi
  rw [h 61 (by decide) (by decide), h 62 (by decide) (by decide), h 63 (by decide) (by decide), h 64 (by decide) (by decide), h 67 (by decide) (by decide)]
  exact hR id hid
theorem jRo_S {S S' : jaS} {s : jvA} (h : ∀ o, o = 60 ∨ o = 65 ∨ o = 66 ∨ o = 68 → S'.1 o = S.1 o) (hR : jRo S s) : jRo S' s := by
  unfold jRo
  rw [h 60 (by decide), h 65 (by decide), h 66 (by decide), h 68 (by decide)]
  exact hR
theorem jRc_S {S S' : jaS} {s : jvA} (h : ∀ o, 51 ≤ o → o < 54 → S'.1 o = S.1 o) (hR : jRc S s) : jRc S' s := by
  intro c hc
  unfold jRc1
  rw [h 51 (by decide) (by decide), h 52 (by decide) (by decide), h 53 (by decide) (by decide)]
  exact hR c hc
theorem jRk_S {S S' : jaS} {s : jvA} (h : ∀ o, 44 ≤ o → o < 49 → S'.1 o = S.1 o) (hR : jRk S s) : jRk S' s := by
  unfold jRk
  rw [h 44 (by decide) (by decide), h 45 (by decide) (by decide), h 46 (by decide) (by decide), h 47 (by decide) (by decide), h 48 (by decide) (by decide)]
  exact hR
/-- frames: but sorts of a list all stays -/
def jcF (A : List Nat) (S S' : jaS) : Prop := (∀ o, o ∉ A → S'.1 o = S.1 o) ∧ S'.2 = S.2
theorem jcF.rfl {A : List Nat} {S : jaS} : jcF A S S := ⟨fun _ _ => Eq.refl _, Eq.refl _⟩
theorem jcF.trans {A : List Nat} {S S' S'' : jaS} (h : jcF A S S') (h' : jcF A S' S'') : jcF A S S'' := ⟨fun o ho => (h'.1 o ho).trans (h.1 o ho), h'.2.trans h.2⟩
theorem jcF.mono {A B : List Nat} {S S' : jaS} (h : jcF A S S') (hAB : ∀ o, o ∈ A → o ∈ B) : jcF B S S' := ⟨fun o ho => h.1 o (fun x => ho (hAB o x)), h.2⟩
theorem jcF.s {A : List Nat} {S S' : jaS} (h : jcF A S S') (o : Nat) (ho : o ∉ A) : S'.1 o = S.1 o := h.1 o ho
theorem jcF.ui {A : List Nat} {S S' : jaS} {o c j : Nat} {v : Int32} (h : jcF A S S') (ho : o ∈ A) : jcF A S (jaUI S' o c j v) :=
  ⟨fun q hq => by rw [jaUI_o (fun e => hq (by rw [e]; exact ho))]; exact h.1 q hq, h.2⟩
/-- the draw's seed and the longs stay -/
abbrev jcE (S S' : jaS) : Prop := (S'.2, S'.1 40 0 8) = (S.2, S.1 40 0 8)
theorem jcF.e {A : List Nat} {S S' : jaS} (h : jcF A S S') (ho : 40 ∉ A) : jcE S S' := by
  show (S'.2, S'.1 40 0 8) = (S.2, S.1 40 0 8)
  rw [h.1 40 ho, h.2]
theorem jcE_ui {S S' : jaS} {o c j : Nat} {v : Int32} (ho : 40 ≠ o) (h : jcE S S') : jcE S (jaUI S' o c j v) := by
  show ((jaUI S' o c j v).2, (jaUI S' o c j v).1 40 0 8) = _
  rw [jaUI_o ho]
  exact h
theorem jcE.l {S S' : jaS} (h : jcE S S') : S'.2 = S.2 := congrArg Prod.fst h
theorem jcE.z {S S' : jaS} (h : jcE S S') : S'.1 40 0 8 = S.1 40 0 8 := congrArg Prod.snd h
/-- cells of one call alone -/
theorem jR_S {S S' : jaS} {x : jvX} (h : ∀ o, o ≠ 42 → o ≠ 43 → o ≠ 69 → S'.1 o = S.1 o) (hR : jR S x) : jR S' x :=
  ⟨jRw_S (fun o h1 h2 => h o (by omega) (by omega) (by omega)) hR.w, jRs_S (fun o h1 h2 => h o (by omega) (by omega) (by omega)) hR.s, jRe_S (fun o h1 h2 => h o (by omega) (by omega) (by omega)) hR.e, jRo_S (fun o h1 => h o (by omega) (by omega) (by omega)) hR.o, jRc_S (fun o h1 h2 => h o (by omega) (by omega) (by omega)) hR.c, jRk_S (fun o h1 h2 => h o (by omega) (by omega) (by omega)) hR.k, by rw [h 40 (by decide) (by decide) (by decide)]; exact hR.t, jRp_S (h 66 (by decide) (by decide) (by decide)) hR.p⟩
/-- what each part speaks of in the reference's rows -/
theorem jRw_c {S : jaS} {s s' : jvA} (h : ∀ j, j < 31 → s' j = s j) (hw : jWw s) (hR : jRw S s) : jRw S s' := by
  have h1 := hw.2.1.2
  have h2 := hw.2.2.1.2.2
  obtain ⟨⟨a0, a1, a2, a3, a4⟩, b, c, bb⟩ := hR
  refine ⟨⟨?_, ?_, ?_, ?_, ?_⟩, fun k hk => ?_, fun q hq => ?_, bb⟩
  · rw [h 0 (by decide)]; exact a0
  · rw [h 1 (by decide)]; exact a1
  · rw [h 2 (by decide)]; exact a2
  · rw [h 3 (by decide)]; exact a3
  · rw [h 4 (by decide)]; exact a4
  · rw [jz_c (h 1 (by decide))] at hk
    rw [h (5 + k) (by omega), h (15 + k) (by omega)]
    exact b k hk
  · rw [jz_c (h 2 (by decide))] at hq
    rw [h (25 + q) (by omega), h (28 + q) (by omega)]
    exact c q hq
theorem jRs_c {S : jaS} {s s' d : jvA} (h : s' 32 = s 32) (hR : jRs S s d) : jRs S s' d := by
  unfold jRs
  rw [jz_c h, h]
  exact hR
theorem jRe_c {S : jaS} {s s' d e : jvA} (h : s' 33 = s 33) (hR : jRe S s d e) : jRe S s' d e := by
  unfold jRe
  rw [jz_c h]
  exact hR
theorem jRo_c {S : jaS} {s s' : jvA} (h : ∀ j, (33 ≤ j ∧ j < 36) ∨ (41 ≤ j ∧ j < 145) ∨ (415 ≤ j ∧ j < 455) → s' j = s j) (ho : jWo s) (hR : jRo S s) : jRo S s' := by
  have hC := ho.came.2
  have hO := ho.ord.2
  obtain ⟨a, b, c, d⟩ := hR
  refine ⟨?_, ?_, fun i hi => ?_, fun i hi => ?_⟩
  · rw [h 33 (by omega)]; exact a
  · rw [h 34 (by omega)]; exact b
  · rw [jz_c (h 34 (by omega))] at hi
    rw [h (41 + i) (by omega), jz_c (h (41 + i) (by omega)), h (415 + i) (by omega)]
    exact c i hi
  · rw [jz_c (h 35 (by omega))] at hi
    rw [jz_c (h (81 + i) (by omega))]
    exact d i hi
theorem jRc1_c {S : jaS} {s s' : jvA} {c : Nat} (hc : c < 3) (h : ∀ j, j = 1 ∨ j = 34 ∨ (145 + 10 * c ≤ j ∧ j < 155 + 10 * c) ∨ (175 + 40 * c ≤ j ∧ j < 215 + 40 * c) ∨ (295 + 40 * c ≤ j ∧ j < 335 + 40 * c) → s' j = s j) (h10 : jz s 1 ≤ 10) (hO : jz s 34 ≤ 40) (hR : jRc1 S s c) : jRc1 S s' c := by
  unfold jRc1
  rw [jz_c (h 1 (by omega)), jz_c (h 34 (by omega))]
  refine ⟨fun k hk => ?_, fun i hi => ?_⟩
  · rw [h _ (by omega)]
    exact hR.1 k hk
  · rw [h (175 + 40 * c + i) (by omega), h (295 + 40 * c + i) (by omega)]
    exact hR.2 i hi
theorem jRc_c {S : jaS} {s s' : jvA} (h : ∀ j, j = 1 ∨ j = 2 ∨ j = 34 ∨ (145 ≤ j ∧ j < 415) → s' j = s j) (h2 : jz s 2 ≤ 3) (h10 : jz s 1 ≤ 10) (hO : jz s 34 ≤ 40) (hR : jRc S s) : jRc S s' := by
  intro c hc
  rw [jz_c (h 2 (by omega))] at hc
  exact jRc1_c (by omega) (fun j hj => h j (by omega)) h10 hO (hR c hc)
theorem jRk_c {S : jaS} {s s' : jvA} (h : ∀ j, j = 1 ∨ (36 ≤ j ∧ j ≤ 40) ∨ (455 ≤ j ∧ j < 525) → s' j = s j) (h10 : jz s 1 ≤ 10) (h38 : jz s 38 ≤ 10) (h40 : jz s 40 ≤ 40) (hR : jRk S s) : jRk S s' := by
  have hz : ∀ j, j = 1 ∨ (36 ≤ j ∧ j ≤ 40) ∨ (455 ≤ j ∧ j < 525) → jz s' j = jz s j := fun j hj => jz_c (h j hj)
  obtain ⟨a, b, c, d, f⟩ := hR
  unfold jRk
  rw [h 36 (by omega), h 37 (by omega), h 38 (by omega), h 39 (by omega), h 40 (by omega), hz 1 (by omega), hz 38 (by omega), hz 40 (by omega)]
  refine ⟨a, fun q => ⟨(b q).1, fun k hk hb => ?_, fun k hk => ?_⟩, c, fun k hk => ?_, fun i hi => ?_⟩
  · rw [h (455 + k) (by omega)]; exact (b q).2.1 k hk hb
  · rw [h (465 + k) (by omega)]; exact (b q).2.2 k hk
  · rw [h (475 + k) (by omega)]; exact d k hk
  · rw [h (485 + i) (by omega)]; exact f i hi
/-! keys of references -/
theorem jaM1 (x : Int32) : (-1 : Int32) - ((-1 : Int32) - x) = x := by grind
theorem jaM1n {n : Nat} (h : n < 2147483648) : ¬ 0 ≤ (-1 : Int32) - nI n := by
  intro q
  rw [Int32.le_iff_toInt_le, Int32.toInt_sub, nI_toInt h] at q
  have e : ((-1 : Int32).toInt - (n : Int)).bmod (2 ^ 32) = -1 - (n : Int) := by
    rw [show (-1 : Int32).toInt = -1 from rfl]
    exact Int.bmod_eq_of_le (by omega) (by omega)
  rw [e] at q
  have : (0 : Int32).toInt = 0 := rfl
  omega
theorem sp_Sc_keyOf {D : Nat} (hD : 1 ≤ D) {kk : Int32 → jaT → Prop} {σ : jaT} {k f pl : Nat} {x : Int32} (hx : x = nI pl ∨ x = (-1 : Int32) - nI pl) (hpl : pl < 3000) (hf : f ≤ 252)
    (h1 : pl < 1000 → kk (-1) σ) (h2 : 1000 ≤ pl → pl < 2000 → kk (nI (pl - 1000)) σ) (h3 : 2000 ≤ pl → pl < 2004 ∧ kk ((σ k).1 67 0 (f + (pl - 2000))) σ) :
    jaDe D jy_Sc_keyOf [.inl x, .inr (.inr (67, k, 0)), .inl (nI f)] σ (jaKi kk) := by
  obtain ⟨D, rfl, hD⟩ := jaSuc hD
  have B : (nI 1000 ≤ nI pl → (nI 2000 ≤ nI pl → (nI f + nI pl - nI 2000 < 0 → kk (-1) σ) ∧ (¬ nI f + nI pl - nI 2000 < 0 → (nI 256 ≤ nI f + nI pl - nI 2000 → kk (-1) σ) ∧ (¬ nI 256 ≤ nI f + nI pl - nI 2000 → vp_in (nI f + nI pl - nI 2000) 256 ∧ kk ((σ k).1 67 0 (jaIx (nI f + nI pl - nI 2000))) σ))) ∧ (¬ nI 2000 ≤ nI pl → kk (nI pl - nI 1000) σ)) ∧ (¬ nI 1000 ≤ nI pl → kk (-1) σ) := by
    simp (disch := first | omega | decide) only [jaU_eq, jaU_U, nI_add, pk_mul, jaIx_nI, vp_inT, true_and, and_true, ↓jaO0, ↓jaO1, nI_z, nI_z2, nI_z3, nI_z4, nI_z5, nI_lt', nI_le', nI_eq', jaUI_at, jaPt_eq, jaPt_ne, jaUI_o, jaUI_2, jaUL_at, jaUL_o, jaUL_1, jaB_z, jaB_1, ↓jaB_01, Classical.not_not, and_self, true_or, or_true, nI_11, Nat.reduceEqDiff, Nat.reduceAdd, Nat.reduceMul, Nat.add_zero, Nat.zero_add, Nat.mul_zero, not_true_eq_false, not_false_eq_true, false_implies, true_implies]
    refine ⟨fun q1 => ⟨fun q2 => ?_, fun q2 => ?_⟩, fun q1 => h1 (by omega)⟩
    · obtain ⟨h4, h5⟩ := h3 q2
      rw [nI_sub (by omega)]
      simp (disch := first | omega | decide) only [jaU_eq, jaU_U, nI_add, pk_mul, jaIx_nI, vp_inT, true_and, and_true, ↓jaO0, ↓jaO1, nI_z, nI_z2, nI_z3, nI_z4, nI_z5, nI_lt', nI_le', nI_eq', jaUI_at, jaPt_eq, jaPt_ne, jaUI_o, jaUI_2, jaUL_at, jaUL_o, jaUL_1, jaB_z, jaB_1, ↓jaB_01, Classical.not_not, and_self, true_or, or_true, nI_11, Nat.reduceEqDiff, Nat.reduceAdd, Nat.reduceMul, Nat.add_zero, Nat.zero_add, Nat.mul_zero, not_true_eq_false, not_false_eq_true, false_implies, true_implies]
      rw [show f + pl - 2000 = f + (pl - 2000) by omega]
      refine ⟨fun q => absurd q (by omega), fun _ => h5⟩
    · rw [nI_sub (by omega)]
      exact h2 q1 (by omega)
  apply js_Sc_keyOf
  rcases hx with rfl | rfl
  · refine ⟨fun _ => B, fun q => absurd (nI_pos' (by omega)) q⟩
  · refine ⟨fun q => absurd q (jaM1n (by omega)), fun _ => ?_⟩
    rw [jaM1]
    exact B
/-- of a reference -/
theorem sp_Sc_keyOf_r {D : Nat} (hD : 1 ≤ D) {kk : Int32 → jaT → Prop} {σ : jaT} {k id q K a : Nat} {d e : jvA} {x : Int32} (hx : x = nI (jcRef d q) ∨ x = (-1 : Int32) - nI (jcRef d q)) (hid : id < 64) (hf : jWf K a d q) (ha : a ≤ 4) (hK : K ≤ 10) (hfe : ∀ j, j < a → (σ k).1 67 0 (4 * id + j) = e (9 * id + 5 + j)) (h : kk (jvKey d e id q) σ) :
    jaDe D jy_Sc_keyOf [.inl x, .inr (.inr (67, k, 0)), .inl (nI (4 * id))] σ (jaKi kk) := by
  obtain ⟨f1, f2, f3 | ⟨f3, f4⟩⟩ := hf
  · have e1 : jcRef d q = 1000 + jz d q := by rw [jcRef, f3, jaIf1_f (by decide)]
    rw [e1] at hx
    refine sp_Sc_keyOf hD hx (by omega) (by omega) (fun q => absurd q (by omega)) (fun _ _ => ?_) (fun q => absurd q (by omega))
    rw [jvKey, f3, jaIf1_f (by decide), f1] at h
    rw [show 1000 + jz d q - 1000 = jz d q by omega]
    exact h
  · have e1 : jcRef d q = 2000 + jz d (q + 1) := by rw [jcRef, f3, jaIf1_t (nI_pos' (by omega))]
    rw [e1] at hx
    refine sp_Sc_keyOf hD hx (by omega) (by omega) (fun q => absurd q (by omega)) (fun _ q => absurd q (by omega)) (fun _ => ⟨by omega, ?_⟩)
    rw [jvKey, f3, jaIf1_t (nI_pos' (by omega)), jaIx_nI (by omega)] at h
    rw [show 2000 + jz d (q + 1) - 2000 = jz d (q + 1) by omega, hfe _ f4]
    exact h
end
