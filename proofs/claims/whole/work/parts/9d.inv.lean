section
/-! what holds between the calls -/
abbrev jIx (B : jaS) : jvX := (B.1 72 0, B.1 75 0, B.1 76 0)
def jIt (A B : jaS) : Prop := (∃ n, n ≤ 940 ∧ A.1 0 0 1 = nI n ∧ B.1 70 0 2 = nI n) ∧ A.1 0 0 3 = B.1 70 0 18 ∧ ∀ j, j < 940 → A.1 1 0 j = B.1 71 0 j &&& nI 255 ∧ ∃ c, c < 256 ∧ B.1 71 0 j &&& nI 255 = nI c
def jIn (T : jaS) (g : Nat → Int64) (s : jvA) : Prop := ∃ nm : Nat → Nat, (∀ j, j < 16 → T.2 35 0 j = Int64.ofNat (nm j) ∧ nm j < 9223372036854775808) ∧ (∀ j, j < 16 → jwU s j → g j = Int64.ofNat (nm j)) ∧ (nm 13 = 0 → jz s 2 = 1)
def jIs (T B : jaS) : Prop := jR T (jIx B) ∧ jW3 (jIx B) ∧ jz (B.1 72 0) 31 ≤ 1000 ∧ jIn T (fun j => B.2 78 0 j) (B.1 72 0)
/-- one that is kept -/
def jIy (T : jaS) (U : Nat → Int64) (s d e u : jvA) (j : Nat) : Prop := ∃ y, jR T (y, d, e) ∧ jW y d e ∧ jz y 31 ≤ 1000 ∧ (∀ i, i < 494 → u (494 * j + i) = y (31 + i)) ∧ (∀ i, i < 31 → y i = s i) ∧ ∀ i, i < 16 → T.2 35 0 i = U i
def jIo (s u : jvA) (m : Nat) : Prop := (∀ j j', j ≤ j' → j' < m → jz u (494 * j + 1) ≤ jz u (494 * j' + 1) ∧ jz u (494 * j + 2) ≤ jz u (494 * j' + 2)) ∧ ∀ j, j < m → jz u (494 * j + 1) ≤ jz s 32 ∧ jz u (494 * j + 2) ≤ jz s 33
def jIk (σ : jaT) (A B : jaS) : Prop := ∃ m q, m ≤ 8 ∧ q < 8 ∧ A.1 0 0 9 = nI m ∧ A.1 0 0 8 = nI q ∧ B.1 70 0 33 = nI m ∧ jIo (B.1 72 0) (B.1 83 0) m ∧ ∀ j, j < m → jIy (σ (3 + (q + 8 - m + j) % 8)) (fun i => (σ 1).2 35 0 i) (B.1 72 0) (B.1 75 0) (B.1 76 0) (B.1 83 0) j
def jIz (σ : jaT) (A B : jaS) : Prop := ∃ w, w ≤ 1 ∧ A.1 0 0 11 = nI w ∧ jSn (σ (14 + w)) (B.1 72 0)
def jIi1 (T V : jaS) (B : jaS) (k : Nat) : Prop := ∃ y dd ee, jR T (y, dd, ee) ∧ jW y dd ee ∧ jz y 31 ≤ 1000 ∧ (∀ j, j < 706 → B.1 91 0 (706 * k + j) = y j) ∧ (∀ j, j < 3192 → B.1 92 0 (3192 * k + j) = dd j) ∧ (∀ j, j < 576 → B.1 93 0 (576 * k + j) = ee j) ∧ jIn T (fun j => B.2 94 0 (16 * k + j)) y ∧ jSn V y
def jIi (σ : jaT) (A B : jaS) : Prop := ∀ k, k < 2 → (A.1 15 0 k = nI 0 ∧ B.1 95 0 k = nI 0) ∨ (A.1 15 0 k = nI 1 ∧ B.1 95 0 k = nI 1 ∧ jIi1 (σ (11 + k)) (σ (16 + k)) B k)
def jIb (A B : jaS) : Prop := (A.1 0 0 17 = nI 0 ∧ B.1 70 0 43 = nI 0) ∨ (A.1 0 0 17 = nI 1 ∧ B.1 70 0 43 = nI 1 ∧ ∀ j, j < 4 → A.1 10 0 j = B.1 88 0 j)
def jIf (A B : jaS) : Prop := (∃ L : List Nat, (B.1 70 0 37 = nI L.length ∨ (L = [] ∧ B.1 70 0 37 = -1)) ∧ A.1 16 0 0 = nI L.length ∧ L.length ≤ 41 ∧ ∀ (j : Nat) (q : Nat), L[j]? = some q → A.1 17 0 j = nI q ∧ B.1 86 0 j = nI q) ∧ ((A.1 16 0 2 = -1 ∧ B.1 70 0 39 = nI 0) ∨ (B.1 70 0 39 = nI 1 ∧ A.1 16 0 2 = B.1 70 0 38))
def jIm (σ : jaT) (B : jaS) : Prop := jmV B ∧ ∀ c, c < 3 → (σ 13).1 34 0 c = 0 ∨ (σ 13).1 34 0 c = 1
def jI (σ : jaT) : Prop := jIt (σ 0) (σ 20) ∧ jIs (σ 1) (σ 20) ∧ jIk σ (σ 0) (σ 20) ∧ jIz σ (σ 0) (σ 20) ∧ jIi σ (σ 0) (σ 20) ∧ jIb (σ 0) (σ 20) ∧ jIf (σ 0) (σ 20) ∧ jIm σ (σ 20)
/-- the class's object -/
abbrev jcA : jaV := .inr (.inr (0, 0, 0))
theorem jaAk {k : Nat} {P : jaT → Prop} {τ : jaT} {B : jaS} (e : τ k = B) (h : P (jaU τ k B)) : P τ := by
  rw [← e, jaU_self] at h
  exact h
/-! what asks leaves it -/
theorem jI_M {σ : jaT} {S' : jaS} {A F : List Nat} (h : jI σ) (f : jaFr A F (σ 20) S') (hA : ∀ o, o ∈ [71, 72, 75, 76, 78, 79, 83, 86, 88, 91, 92, 93, 94, 95] → o ∉ A) (hF : ∀ j, j ∈ [2, 18, 33, 37, 38, 39, 43] → j ∉ F) : jI (jaU σ 20 S') := by
  obtain ⟨h1, h2, h3, h4, h5, h6, h7, h8⟩ := h
  have n : ∀ q, q ≠ 20 → jaU σ 20 S' q = σ q := fun q hq => jaU_ne hq
  have e20 : jaU σ 20 S' 20 = S' := jaU_eq
  have s : ∀ o, o ∈ [71, 72, 75, 76, 78, 79, 83, 86, 88, 91, 92, 93, 94, 95] → S'.1 o = (σ 20).1 o := fun o ho => f.s o (hA o ho) (fun e => by rw [e] at ho; revert ho; decide)
  have l : ∀ o, o ∈ [71, 72, 75, 76, 78, 79, 83, 86, 88, 91, 92, 93, 94, 95] → S'.2 o = (σ 20).2 o := fun o ho => f.l o (hA o ho) (fun e => by rw [e] at ho; revert ho; decide)
  have g : ∀ j, j ∈ [2, 18, 33, 37, 38, 39, 43] → S'.1 70 0 j = (σ 20).1 70 0 j := fun j hj => f.f j (hF j hj)
  unfold jI
  rw [e20, n 0 (by decide), n 1 (by decide)]
  refine ⟨?_, ?_, ?_, ?_, ?_, ?_, ?_, ?_⟩
  · unfold jIt
    rw [g 2 (by decide), g 18 (by decide), s 71 (by decide)]
    exact h1
  · unfold jIs jIx
    rw [s 72 (by decide), s 75 (by decide), s 76 (by decide), l 78 (by decide)]
    exact h2
  · obtain ⟨m, q, a, b, c, d, e, i, k⟩ := h3
    refine ⟨m, q, a, b, c, d, by rw [g 33 (by decide)]; exact e, by rw [s 72 (by decide), s 83 (by decide)]; exact i, fun j hj => ?_⟩
    rw [n _ (by omega), n 1 (by decide), s 72 (by decide), s 75 (by decide), s 76 (by decide), s 83 (by decide)]
    exact k j hj
  · obtain ⟨w, a, b, c⟩ := h4
    exact ⟨w, a, b, by rw [n _ (by omega), s 72 (by decide)]; exact c⟩
  · intro k hk
    rw [s 95 (by decide), n _ (by omega), n _ (by omega)]
    unfold jIi1
    rw [s 91 (by decide), s 92 (by decide), s 93 (by decide), l 94 (by decide)]
    exact h5 k hk
  · unfold jIb
    rw [g 43 (by decide), s 88 (by decide)]
    exact h6
  · unfold jIf
    rw [g 37 (by decide), g 38 (by decide), g 39 (by decide), s 86 (by decide)]
    exact h7
  · unfold jIm jmV
    rw [l 79 (by decide), n 13 (by decide)]
    exact h8
theorem jI_1 {σ : jaT} {S' : jaS} (h : jI σ) (hs : ∀ o, o ≠ 42 → o ≠ 43 → o ≠ 69 → S'.1 o = (σ 1).1 o) (hl : S'.2 = (σ 1).2) : jI (jaU σ 1 S') := by
  obtain ⟨h1, h2, h3, h4, h5, h6, h7, h8⟩ := h
  have n : ∀ q, q ≠ 1 → jaU σ 1 S' q = σ q := fun q hq => jaU_ne hq
  have e1 : jaU σ 1 S' 1 = S' := jaU_eq
  unfold jI
  rw [e1, n 0 (by decide), n 20 (by decide)]
  refine ⟨h1, ⟨jR_S hs h2.1, h2.2.1, h2.2.2.1, ?_⟩, ?_, ?_, ?_, h6, h7, ?_⟩
  · unfold jIn
    rw [hl]
    exact h2.2.2.2
  · obtain ⟨m, q, a, b, c, d, e, i, k⟩ := h3
    refine ⟨m, q, a, b, c, d, e, i, fun j hj => ?_⟩
    rw [n _ (by omega), e1, hl]
    exact k j hj
  · obtain ⟨w, a, b, c⟩ := h4
    exact ⟨w, a, b, by rw [n _ (by omega)]; exact c⟩
  · intro k hk
    rw [n _ (by omega), n _ (by omega)]
    exact h5 k hk
  · unfold jIm
    rw [n 13 (by decide)]
    exact h8
theorem jI_2 {σ : jaT} {S' : jaS} (h : jI σ) : jI (jaU σ 2 S') := by
  obtain ⟨h1, h2, h3, h4, h5, h6, h7, h8⟩ := h
  have n : ∀ q, q ≠ 2 → jaU σ 2 S' q = σ q := fun q hq => jaU_ne hq
  unfold jI
  rw [n 0 (by decide), n 20 (by decide), n 1 (by decide)]
  refine ⟨h1, h2, ?_, ?_, ?_, h6, h7, ?_⟩
  · obtain ⟨m, q, a, b, c, d, e, i, k⟩ := h3
    refine ⟨m, q, a, b, c, d, e, i, fun j hj => ?_⟩
    rw [n _ (by omega), n 1 (by decide)]
    exact k j hj
  · obtain ⟨w, a, b, c⟩ := h4
    exact ⟨w, a, b, by rw [n _ (by omega)]; exact c⟩
  · intro k hk
    rw [n _ (by omega), n _ (by omega)]
    exact h5 k hk
  · unfold jIm
    rw [n 13 (by decide)]
    exact h8
theorem jI.W {σ : jaT} (h : jI σ) : jW ((σ 20).1 72 0) ((σ 20).1 75 0) ((σ 20).1 76 0) := h.2.1.2.1
theorem jI.R {σ : jaT} (h : jI σ) : jR (σ 1) ((σ 20).1 72 0, (σ 20).1 75 0, (σ 20).1 76 0) := h.2.1.1
/-- class, then reference: one answer, all holds -/
def jFc (yA yM : Nat) (as : List jaV) : Prop := ∀ σ, jI σ → jaDe 33 yA (jcA :: as) σ (jaKi fun a σ1 => jaDe 12 yM (jaMo :: as) σ1 (jaKi fun b σ2 => a = b ∧ jI σ2))
end
