section
/-! reading what was written; small numbers; bits -/
def jaPt (f : Nat → Int32) (j : Nat) (v : Int32) : Nat → Int32 := fun i => if i = j then v else f i
def jaPl (f : Nat → Int64) (j : Nat) (v : Int64) : Nat → Int64 := fun i => if i = j then v else f i
theorem jaPt_eq {f : Nat → Int32} {j : Nat} {v : Int32} : jaPt f j v j = v := if_pos rfl
theorem jaPt_ne {f : Nat → Int32} {i j : Nat} {v : Int32} (h : i ≠ j) : jaPt f j v i = f i := if_neg h
theorem jaPl_eq {f : Nat → Int64} {j : Nat} {v : Int64} : jaPl f j v j = v := if_pos rfl
theorem jaPl_ne {f : Nat → Int64} {i j : Nat} {v : Int64} (h : i ≠ j) : jaPl f j v i = f i := if_neg h
theorem jaPt_of {f : Nat → Int32} {i j : Nat} {v : Int32} (h : i = j) : jaPt f j v i = v := if_pos h
theorem jaPt_pt {f : Nat → Int32} {j : Nat} {v w : Int32} : jaPt (jaPt f j v) j w = jaPt f j w := by
  funext i
  unfold jaPt
  split <;> rfl
theorem jaPt_self {f : Nat → Int32} {j : Nat} {v : Int32} (h : f j = v) : jaPt f j v = f := by
  funext i
  unfold jaPt
  split
  · rename_i e; rw [e, h]
  · rfl
theorem jaU_eq {σ : jaT} {k : Nat} {S : jaS} : jaU σ k S k = S := if_pos rfl
theorem jaU_ne {σ : jaT} {k q : Nat} {S : jaS} (h : q ≠ k) : jaU σ k S q = σ q := if_neg h
theorem jaU_U {σ : jaT} {k : Nat} {S S' : jaS} : jaU (jaU σ k S) k S' = jaU σ k S' := by
  funext q
  unfold jaU
  split <;> rfl
theorem jaU_self {σ : jaT} {k : Nat} : jaU σ k (σ k) = σ := by
  funext q
  unfold jaU
  split
  · rename_i e; rw [e]
  · rfl
theorem jaU_swap {σ : jaT} {k q : Nat} {S S' : jaS} (h : k ≠ q) : jaU (jaU σ k S) q S' = jaU (jaU σ q S') k S := by
  funext i
  unfold jaU
  split <;> split <;> first | rfl | (exfalso; omega)
theorem jaUI_at {S : jaS} {o c j : Nat} {v : Int32} : (jaUI S o c j v).1 o c = jaPt (S.1 o c) j v := by
  funext i
  show (if o = o ∧ c = c ∧ i = j then v else _) = if i = j then v else _
  simp
theorem jaUI_o {S : jaS} {o o' c j : Nat} {v : Int32} (h : o' ≠ o) : (jaUI S o c j v).1 o' = S.1 o' := by
  funext c' j'
  show (if o' = o ∧ c' = c ∧ j' = j then v else _) = _
  simp [h]
theorem jaUI_c {S : jaS} {o c c' j : Nat} {v : Int32} (h : c' ≠ c) : (jaUI S o c j v).1 o c' = S.1 o c' := by
  funext j'
  show (if o = o ∧ c' = c ∧ j' = j then v else _) = _
  simp [h]
theorem jaUI_2 {S : jaS} {o c j : Nat} {v : Int32} : (jaUI S o c j v).2 = S.2 := rfl
theorem jaUL_at {S : jaS} {o c j : Nat} {v : Int64} : (jaUL S o c j v).2 o c = jaPl (S.2 o c) j v := by
  funext i
  show (if o = o ∧ c = c ∧ i = j then v else _) = if i = j then v else _
  simp
theorem jaUL_o {S : jaS} {o o' c j : Nat} {v : Int64} (h : o' ≠ o) : (jaUL S o c j v).2 o' = S.2 o' := by
  funext c' j'
  show (if o' = o ∧ c' = c ∧ j' = j then v else _) = _
  simp [h]
theorem jaUL_1 {S : jaS} {o c j : Nat} {v : Int64} : (jaUL S o c j v).1 = S.1 := rfl
theorem jaIx_nI {n : Nat} (h : n < 2147483648) : jaIx (nI n) = n := nI_clamp h
theorem vp_inT {n N : Nat} (h : n < N) (hN : N < 2147483648) : vp_in (nI n) N = True := eq_true (vp_in_nI h hN)
theorem nI_z {n : Nat} (h : n < 2147483648) : (nI n = 0) = (n = 0) := by
  rw [← nI_0, nI_eq h (by decide)]
theorem nI_z' {n : Nat} (h : n < 2147483648) : (0 = nI n) = (n = 0) := by
  rw [← nI_0, nI_eq (by decide) h]
  exact propext ⟨fun e => e.symm, fun e => e.symm⟩
theorem nI_z2 {n : Nat} (h : n < 2147483648) : (0 ≤ nI n) = True := eq_true (nI_pos' h)
theorem nI_z3 {n : Nat} (h : n < 2147483648) : (nI n < 0) = False := eq_false (nI_pos h)
theorem nI_z4 {n : Nat} (h : n < 2147483648) : (nI n ≤ 0) = (n = 0) := by
  rw [← nI_0, nI_leI h (by decide)]
  exact propext ⟨fun q => by omega, fun q => by omega⟩
theorem nI_z5 {n : Nat} (h : n < 2147483648) : (0 < nI n) = (0 < n) := by
  rw [← nI_0, nI_ltI (by decide) h]
theorem nI_lt' {a b : Nat} (ha : a < 2147483648) (hb : b < 2147483648) : (nI a < nI b) = (a < b) := propext (nI_ltI ha hb)
theorem nI_le' {a b : Nat} (ha : a < 2147483648) (hb : b < 2147483648) : (nI a ≤ nI b) = (a ≤ b) := propext (nI_leI ha hb)
theorem nI_eq' {a b : Nat} (ha : a < 2147483648) (hb : b < 2147483648) : (nI a = nI b) = (a = b) := propext (nI_eq ha hb)
theorem nI_sub {a b : Nat} (h : b ≤ a) : nI a - nI b = nI (a - b) := by
  rw [show nI a = nI (a - b) + nI b by rw [nI_add, Nat.sub_add_cancel h]]
  exact Int32.add_sub_cancel _ _
theorem nI_m1 {n : Nat} (h : n < 2147483648) : (nI n = -1) = False := eq_false fun e => by
  have h2 : (0 : Int32) ≤ nI n := nI_pos' h
  rw [e] at h2
  exact absurd h2 (by decide)
theorem nI_m1' {n : Nat} (h : n < 2147483648) : (-1 = nI n) = False := eq_false fun e => by
  have h2 : (0 : Int32) ≤ nI n := nI_pos' h
  rw [← e] at h2
  exact absurd h2 (by decide)
theorem jaO0 : (nI 0 = 0 ∨ nI 0 = 1) = True := eq_true (Or.inl nI_0)
theorem jaO1 : (nI 1 = 0 ∨ nI 1 = 1) = True := eq_true (Or.inr rfl)
/-- a truth as an int -/
noncomputable def jaB (p : Prop) : Int32 := @ite Int32 p (Classical.propDecidable p) (nI 1) (nI 0)
noncomputable def jaBn (p : Prop) : Nat := @ite Nat p (Classical.propDecidable p) 1 0
theorem jaB_t {p : Prop} (h : p) : jaB p = nI 1 := if_pos h
theorem jaB_f {p : Prop} (h : ¬ p) : jaB p = nI 0 := if_neg h
theorem jaBn_t {p : Prop} (h : p) : jaBn p = 1 := if_pos h
theorem jaBn_f {p : Prop} (h : ¬ p) : jaBn p = 0 := if_neg h
theorem jaB_n {p : Prop} : jaB p = nI (jaBn p) := by
  by_cases h : p
  · rw [jaB_t h, jaBn_t h]
  · rw [jaB_f h, jaBn_f h]
theorem jaB_z {p : Prop} : (jaB p = 0) = ¬ p := by
  by_cases h : p
  · rw [jaB_t h]; simp [h]; decide
  · rw [jaB_f h]; simp [h]; decide
theorem jaB_1 {p : Prop} : (jaB p = nI 1) = p := by
  by_cases h : p
  · rw [jaB_t h]; simp [h]
  · rw [jaB_f h]; simp [h]; decide
theorem jaB_01 {p : Prop} : (jaB p = 0 ∨ jaB p = 1) = True := by
  by_cases h : p
  · rw [jaB_t h]; exact eq_true (Or.inr rfl)
  · rw [jaB_f h]; exact eq_true (Or.inl rfl)
theorem jaB_c {p q : Prop} (h : p ↔ q) : jaB p = jaB q := by rw [propext h]
theorem jaBn_c {p q : Prop} (h : p ↔ q) : jaBn p = jaBn q := by rw [propext h]
theorem jaBn_le {p : Prop} : jaBn p ≤ 1 := by
  by_cases h : p
  · rw [jaBn_t h]; exact Nat.le_refl _
  · rw [jaBn_f h]; exact Nat.zero_le _
theorem jaBk {p : Prop} {kk : Int32 → jaT → Prop} {σ : jaT} (h : kk (jaB p) σ) : (p → kk (nI 1) σ) ∧ (¬ p → kk (nI 0) σ) :=
  ⟨fun q => by rwa [jaB_t q] at h, fun q => by rwa [jaB_f q] at h⟩
theorem nI_11 : (nI 1 = 1) = True := eq_true rfl
/-- how many numbers below n are so -/
noncomputable def jaCnt (p : Nat → Prop) : Nat → Nat
  | 0 => 0
  | n + 1 => jaCnt p n + jaBn (p n)
theorem jaCnt_le {p : Nat → Prop} : ∀ n, jaCnt p n ≤ n
  | 0 => Nat.le_refl _
  | n + 1 => by
    have h1 := jaCnt_le (p := p) n
    have h2 := jaBn_le (p := p n)
    show jaCnt p n + jaBn (p n) ≤ n + 1
    omega
theorem jaCnt_t {p : Nat → Prop} {n : Nat} (h : p n) : jaCnt p (n + 1) = jaCnt p n + 1 := by
  show jaCnt p n + jaBn (p n) = _
  rw [jaBn_t h]
theorem jaCnt_f {p : Nat → Prop} {n : Nat} (h : ¬ p n) : jaCnt p (n + 1) = jaCnt p n := by
  show jaCnt p n + jaBn (p n) = _
  rw [jaBn_f h]
  rfl
theorem jaCnt_c {p q : Nat → Prop} : ∀ n, (∀ i, i < n → (p i ↔ q i)) → jaCnt p n = jaCnt q n
  | 0, _ => rfl
  | n + 1, h => by
    show jaCnt p n + jaBn (p n) = jaCnt q n + jaBn (q n)
    rw [jaCnt_c n (fun i hi => h i (by omega)), jaBn_c (h n (by omega))]
theorem jaCnt_z {p : Nat → Prop} : ∀ n, jaCnt p n = 0 ↔ ∀ i, i < n → ¬ p i
  | 0 => ⟨fun _ i hi => absurd hi (by omega), fun _ => rfl⟩
  | n + 1 => by
    show jaCnt p n + jaBn (p n) = 0 ↔ _
    rw [Nat.add_eq_zero_iff, jaCnt_z n]
    refine ⟨fun h i hi => ?_, fun h => ⟨fun i hi => h i (by omega), jaBn_f (h n (by omega))⟩⟩
    by_cases e : i = n
    · rw [e]
      intro hp
      rw [jaBn_t hp] at h
      exact absurd h.2 (by decide)
    · exact h.1 i (by omega)
theorem jaCnt_mono {p : Nat → Prop} {a b : Nat} (h : a ≤ b) : jaCnt p a ≤ jaCnt p b := by
  induction b with
  | zero => rw [show a = 0 by omega]; exact Nat.le_refl _
  | succ b ih =>
    by_cases e : a = b + 1
    · rw [e]; exact Nat.le_refl _
    · exact Nat.le_trans (ih (by omega)) (Nat.le_add_right _ _)
/-- loops that count upwards -/
theorem jaFor {C : Nat → Prop} {N : Nat} (hN : C N) (hs : ∀ i, i < N → C (i + 1) → C i) : C 0 := by
  have h : ∀ m i, i + m = N → C i := by
    intro m
    induction m with
    | zero => intro i hi; rw [show i = N by omega]; exact hN
    | succ m ih => intro i hi; exact hs i (by omega) (ih (i + 1) (by omega))
  exact h N 0 (by omega)
theorem jaForA {C : Nat → Prop} {a N : Nat} (ha : a ≤ N) (hN : C N) (hs : ∀ i, a ≤ i → i < N → C (i + 1) → C i) : C a := by
  have h : ∀ m i, a ≤ i → i + m = N → C i := by
    intro m
    induction m with
    | zero => intro i _ hi; rw [show i = N by omega]; exact hN
    | succ m ih => intro i h1 hi; exact hs i h1 (by omega) (ih (i + 1) (by omega) (by omega))
  exact h (N - a) a (Nat.le_refl _) (by omega)
theorem jaSuc {n D : Nat} (h : n + 1 ≤ D) : ∃ q : Nat, D = q + 1 ∧ n ≤ q := ⟨D - 1, by omega, by omega⟩
end
