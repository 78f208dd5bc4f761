section
/-! a TRANS, read: what comes of its tokens -/
abbrev jsS : Type := jvA × Nat
noncomputable def jsRef (X : jtX) (nm : Nat → Nat) (K : Nat) (full : Prop) (u : jsS) (i : Nat) : Sum jwF (jsS × Nat × Option Nat × Nat) :=
  jaIf1 (jtK X i = 108) (jaIf1 (full ∨ u.2 = 4) (.inl (4, i)) (jwB (jwNam X nm 3 K (i + 1)) fun r => .inr ((jaPt u.1 (3 + u.2) (nI r), u.2 + 1), r, some u.2, i + 2))) (jwB (jwNam X nm 3 K i) fun r => jaIf1 full (.inl (4, i)) (.inr (u, r, none, i + 1)))
noncomputable def jsTv (X : jtX) (nm : Nat → Nat) (K : Nat) (full : Prop) (u : jsS) (i : Nat) : Sum jwF (jsS × Nat × Nat × Option Nat × Nat) :=
  jaIf1 (jtK X i = 2) (jaIf1 full (.inl (4, i)) (.inr (u, 0, jtV X i, none, i + 1))) (jwB (jsRef X nm K full u i) fun y => .inr (y.1, 1, y.2.1, y.2.2.1, y.2.2.2))
noncomputable def jsPu (P : jvA) (q b v : Nat) (t : Option Nat) (l : Nat) : jvA := jaPt (jaPt (jaPt (jaPt P q (nI b)) (q + 1) (nI v)) (q + 2) (jvOp t nI)) (q + 3) (nI l)
noncomputable def jsTerm (X : jtX) (nm : Nat → Nat) (K to l k : Nat) (u : jsS) (i : Nat) : Sum jwF (jsS × Nat) :=
  jwB (jsTv X nm K (k = 4) u i) fun y => .inr ((jaPt (jsPu y.1.1 (to + 5 + 4 * k) y.2.1 y.2.2.1 y.2.2.2.1 l) (to + 4) (nI (k + 1)), y.1.2), y.2.2.2.2)
noncomputable def jsTl (X : jtX) (nm : Nat → Nat) (K to : Nat) : Nat → Nat → Nat → jsS → Nat → Sum jwF (jsS × Nat)
  | 0, _, _, _, _ => .inl (0, 0)
  | m + 1, l, k, u, i => jwB (jsTerm X nm K to l k u i) fun y => jaIf1 (jtK X y.2 = 43 ∨ jtK X y.2 = 45) (jsTl X nm K to m (jaBn (jtK X y.2 = 45)) (k + 1) y.1 (y.2 + 1)) (.inr y)
noncomputable def jsHd (P : jvA) (to nd r : Nat) (t : Option Nat) (c : Nat) : jvA := jaPt (jaPt (jaPt (jaPt (jaPt P to (nI nd)) (to + 1) (nI r)) (to + 2) (jvOp t nI)) (to + 4) (nI 0)) (to + 3) (nI c)
noncomputable def jsNeed (X : jtX) (nm : Nat → Nat) (K to : Nat) (full : Prop) (u : jsS) (i : Nat) : Sum jwF (jsS × Nat) :=
  jwB (jsRef X nm K full u (i + 1)) fun y => jaIf1 (60 ≤ jtK X y.2.2.2 ∧ jtK X y.2.2.2 ≤ 62) (jsTerm X nm K to 0 0 (jsHd y.1.1 to 1 y.2.1 y.2.2.1 (jtK X y.2.2.2), y.1.2) (y.2.2.2 + 1)) (.inl (1, y.2.2.2))
noncomputable def jsGive (X : jtX) (nm : Nat → Nat) (K to : Nat) (full : Prop) (u : jsS) (i : Nat) : Sum jwF (jsS × Nat) :=
  jwB (jsRef X nm K full u i) fun y => jaIf1 (jtK X y.2.2.2 = 61) (jsTl X nm K to 5 0 0 (jsHd y.1.1 to 0 y.2.1 y.2.2.1 61, y.1.2) (y.2.2.2 + 1)) (.inl (1, y.2.2.2))
noncomputable def jsStep (X : jtX) (nm : Nat → Nat) (K st : Nat) (u : jsS) (i : Nat) : Sum jwF (jsS × Nat) :=
  jaIf1 (jtK X i = 107) (jaIf1 (st = 6) (.inl (4, i)) (jsNeed X nm K (7 + 21 * st) (st = 6) u i)) (jsGive X nm K (7 + 21 * st) (st = 6) u i)
noncomputable def jsSs (X : jtX) (nm : Nat → Nat) (K st : Nat) (u : jsS) (i : Nat) : Sum jwF (jsS × Nat) := jwB (jsStep X nm K st u i) fun y => jaIf1 (jtK X y.2 = 59) (.inr (y.1, y.2 + 1)) (.inl (1, y.2))
noncomputable def jsAll (X : jtX) (nm : Nat → Nat) (K : Nat) : Nat → Nat → jsS → Nat → Sum jwF (jsS × Nat)
  | 0, _, _, _ => .inl (0, 0)
  | m + 1, st, u, i => jaIf1 (0 < st ∧ jtK X i = 1) (.inr (u, st)) (jwB (jsSs X nm K st u i) fun y => jsAll X nm K m (st + 1) y.1 y.2)
/-! it is well -/
def jsW (K : Nat) (u : jsS) : Prop := u.2 ≤ 4 ∧ ∀ j, j < u.2 → u.1 (3 + j) = nI (jz u.1 (3 + j)) ∧ jz u.1 (3 + j) < K
theorem jWf_a {K a a' : Nat} {d d' : jvA} {p : Nat} (ha : a ≤ a') (h0 : d' p = d p) (h1 : d' (p + 1) = d (p + 1)) (h : jWf K a d p) : jWf K a' d' p := by
  have h := jWf_m h0 h1 h
  exact ⟨h.1, h.2.1, h.2.2.imp (fun q => q) (fun q => ⟨q.1, by omega⟩)⟩
theorem jWu_a {K a a' : Nat} {d d' : jvA} {p : Nat} (ha : a ≤ a') (hd : ∀ j, j < 4 → d' (p + j) = d (p + j)) (h : jWu K a d p) : jWu K a' d' p := by
  have e0 := hd 0 (by decide)
  rw [Nat.add_zero] at e0
  obtain ⟨h1, h2⟩ := h
  unfold jWu
  rw [e0, hd 1 (by decide), hd 3 (by decide), jz_c (hd 1 (by decide))]
  exact ⟨h1.imp (fun q => q) (fun q => ⟨q.1, jWf_a ha (hd 1 (by decide)) (hd 2 (by decide)) q.2⟩), h2⟩
theorem jsOp {t : Option Nat} {a : Nat} (h : ∀ j, t = some j → j < a) (ha : a ≤ 4) : jvOp t nI = -1 ∨ (jvOp t nI = nI (jaIx (jvOp t nI)) ∧ jaIx (jvOp t nI) < a) := by
  rcases t with _ | j
  · exact Or.inl rfl
  · right
    have := h j rfl
    show nI j = nI (jaIx (nI j)) ∧ jaIx (nI j) < a
    rw [jaIx_nI (by omega)]
    exact ⟨rfl, this⟩
theorem jsRef_r {X : jtX} {nm : Nat → Nat} {K : Nat} {full : Prop} {u u' : jsS} {i r i' : Nat} {t : Option Nat} (h : jsRef X nm K full u i = .inr (u', r, t, i')) (hw : jsW K u) (hK : K ≤ 10) : ¬ full ∧ jsW K u' ∧ u.2 ≤ u'.2 ∧ r < K ∧ (∀ j, t = some j → j < u'.2) ∧ ∀ q, 7 ≤ q → u'.1 q = u.1 q := by
  obtain ⟨w1, w2⟩ := hw
  unfold jsRef at h
  by_cases q1 : jtK X i = 108
  · rw [jaIf1_t q1] at h
    by_cases q2 : full ∨ u.2 = 4
    · rw [jaIf1_t q2] at h; cases h
    · rw [jaIf1_f q2] at h
      obtain ⟨r', e1, e2⟩ := jwB_r h
      obtain ⟨-, r2, -⟩ := jwNam_r e1
      cases e2
      refine ⟨fun z => q2 (Or.inl z), ⟨show u.2 + 1 ≤ 4 by omega, fun j hj => ?_⟩, Nat.le_succ _, r2, fun j hj => ?_, fun q hq => jaPt_ne (by omega)⟩
      · have hj : j < u.2 + 1 := hj
        show jaPt u.1 (3 + u.2) (nI r) (3 + j) = nI (jaIx (jaPt u.1 (3 + u.2) (nI r) (3 + j))) ∧ jaIx (jaPt u.1 (3 + u.2) (nI r) (3 + j)) < K
        by_cases e : j = u.2
        · rw [e, jaPt_eq, jaIx_nI (by omega)]
          exact ⟨rfl, r2⟩
        · rw [jaPt_ne (by omega)]
          exact w2 j (by omega)
      · cases hj
        exact Nat.lt_succ_self _
  · rw [jaIf1_f q1] at h
    obtain ⟨r', e1, e2⟩ := jwB_r h
    obtain ⟨-, r2, -⟩ := jwNam_r e1
    by_cases q2 : full
    · rw [jaIf1_t q2] at e2; cases e2
    · rw [jaIf1_f q2] at e2
      cases e2
      exact ⟨q2, ⟨w1, w2⟩, Nat.le_refl _, r2, fun j hj => (by cases hj), fun q _ => rfl⟩
theorem jsTv_r {X : jtX} (hX : ∀ q, X.1 q < 256) {nm : Nat → Nat} {K : Nat} {full : Prop} {u u' : jsS} {i b v i' : Nat} {t : Option Nat} (h : jsTv X nm K full u i = .inr (u', b, v, t, i')) (hw : jsW K u) (hK : K ≤ 10) : ¬ full ∧ jsW K u' ∧ u.2 ≤ u'.2 ∧ ((b = 0 ∧ v < 1000 ∧ t = none) ∨ (b = 1 ∧ v < K)) ∧ (∀ j, t = some j → j < u'.2) ∧ ∀ q, 7 ≤ q → u'.1 q = u.1 q := by
  unfold jsTv at h
  by_cases q1 : jtK X i = 2
  · rw [jaIf1_t q1] at h
    by_cases q2 : full
    · rw [jaIf1_t q2] at h; cases h
    · rw [jaIf1_f q2] at h
      cases h
      exact ⟨q2, hw, Nat.le_refl _, Or.inl ⟨rfl, jtV_lt hX q1, rfl⟩, fun j hj => (by cases hj), fun q _ => rfl⟩
  · rw [jaIf1_f q1] at h
    obtain ⟨⟨u1, r1, t1, i1⟩, e1, e2⟩ := jwB_r h
    cases e2
    obtain ⟨a, b, c, d, e, f⟩ := jsRef_r e1 hw hK
    exact ⟨a, b, c, Or.inr ⟨rfl, d⟩, e, f⟩
theorem jsPu_0 {P : jvA} {q b v l : Nat} {t : Option Nat} : jsPu P q b v t l q = nI b := by
  unfold jsPu; rw [jaPt_ne (by omega), jaPt_ne (by omega), jaPt_ne (by omega), jaPt_eq]
theorem jsPu_1 {P : jvA} {q b v l : Nat} {t : Option Nat} : jsPu P q b v t l (q + 1) = nI v := by
  unfold jsPu; rw [jaPt_ne (by omega), jaPt_ne (by omega), jaPt_eq]
theorem jsPu_2 {P : jvA} {q b v l : Nat} {t : Option Nat} : jsPu P q b v t l (q + 2) = jvOp t nI := by
  unfold jsPu; rw [jaPt_ne (by omega), jaPt_eq]
theorem jsPu_3 {P : jvA} {q b v l : Nat} {t : Option Nat} : jsPu P q b v t l (q + 3) = nI l := by
  unfold jsPu; rw [jaPt_eq]
theorem jsPu_n {P : jvA} {q b v l j : Nat} {t : Option Nat} (h : j < q ∨ q + 4 ≤ j) : jsPu P q b v t l j = P j := by
  unfold jsPu; rw [jaPt_ne (by omega), jaPt_ne (by omega), jaPt_ne (by omega), jaPt_ne (by omega)]
theorem jsTerm_r {X : jtX} (hX : ∀ q, X.1 q < 256) {nm : Nat → Nat} {K to l k : Nat} {u u' : jsS} {i i' : Nat} (h : jsTerm X nm K to l k u i = .inr (u', i')) (hw : jsW K u) (hK : K ≤ 10) (hto : 7 ≤ to) (hl : l ≤ 1) : k ≠ 4 ∧ jsW K u' ∧ u.2 ≤ u'.2 ∧ jWu K u'.2 u'.1 (to + 5 + 4 * k) ∧ u'.1 (to + 4) = nI (k + 1) ∧ ∀ q, 7 ≤ q → q ≠ to + 4 → ¬ (to + 5 + 4 * k ≤ q ∧ q < to + 9 + 4 * k) → u'.1 q = u.1 q := by
  unfold jsTerm at h
  obtain ⟨⟨u1, b1, v1, t1, i1⟩, e1, e2⟩ := jwB_r h
  cases e2
  obtain ⟨a, ⟨w1, w2⟩, c, d, e, f⟩ := jsTv_r hX e1 hw hK
  refine ⟨a, ⟨w1, fun j hj => ?_⟩, c, ?_, jaPt_eq, fun q h1 h2 h3 => ?_⟩
  · have hj : j < u1.2 := hj
    have ne : jaPt (jsPu u1.1 (to + 5 + 4 * k) b1 v1 t1 l) (to + 4) (nI (k + 1)) (3 + j) = u1.1 (3 + j) := by rw [jaPt_ne (by omega), jsPu_n (by omega)]
    show jaPt (jsPu u1.1 (to + 5 + 4 * k) b1 v1 t1 l) (to + 4) (nI (k + 1)) (3 + j) = nI (jaIx (jaPt (jsPu u1.1 (to + 5 + 4 * k) b1 v1 t1 l) (to + 4) (nI (k + 1)) (3 + j))) ∧ jaIx (jaPt (jsPu u1.1 (to + 5 + 4 * k) b1 v1 t1 l) (to + 4) (nI (k + 1)) (3 + j)) < K
    rw [ne]
    exact w2 j hj
  · refine jWu_a (Nat.le_refl _) (d := jsPu u1.1 (to + 5 + 4 * k) b1 v1 t1 l) (fun j hj => jaPt_ne (by omega)) ?_
    unfold jWu jWf
    rw [jsPu_0, jsPu_1, jsPu_2, jsPu_3]
    unfold jz
    rw [jsPu_1, jsPu_2]
    refine ⟨?_, ?_⟩
    · rcases d with ⟨d1, d2, d3⟩ | ⟨d1, d2⟩
      · left
        rw [jaIx_nI (by omega), d1]
        exact ⟨rfl, rfl, d2⟩
      · right
        rw [jaIx_nI (by omega), d1]
        exact ⟨rfl, rfl, d2, jsOp e w1⟩
    · rcases Nat.le_one_iff_eq_zero_or_eq_one.mp hl with z | z
      · rw [z]; exact Or.inl rfl
      · rw [z]; exact Or.inr rfl
  · show jaPt (jsPu u1.1 (to + 5 + 4 * k) b1 v1 t1 l) (to + 4) (nI (k + 1)) q = u.1 q
    rw [jaPt_ne h2, jsPu_n (by omega)]
    exact f q h1
/-- a step's head and k terms -/
def jsI (K to k : Nat) (u : jsS) : Prop := (u.1 to = nI 0 ∨ u.1 to = nI 1) ∧ jWf K u.2 u.1 (to + 1) ∧ (u.1 (to + 3) = nI (jz u.1 (to + 3)) ∧ 60 ≤ jz u.1 (to + 3) ∧ jz u.1 (to + 3) ≤ 62) ∧ u.1 (to + 4) = nI k ∧ ∀ x, x < k → jWu K u.2 u.1 (to + 5 + 4 * x)
theorem jsI_t {K to k : Nat} {u : jsS} (h : jsI K to k u) (hk : k ≤ 4) : jWt K u.2 u.1 to := by
  obtain ⟨a, b, c, d, e⟩ := h
  have z : jz u.1 (to + 4) = k := by rw [jz, d, jaIx_nI (by omega)]
  refine ⟨a, b, c, ?_, ?_⟩
  · rw [z]; exact ⟨d, hk⟩
  · rw [z]; exact e
theorem jsTerm_I {X : jtX} (hX : ∀ q, X.1 q < 256) {nm : Nat → Nat} {K to l k : Nat} {u u' : jsS} {i i' : Nat} (h : jsTerm X nm K to l k u i = .inr (u', i')) (hw : jsW K u) (hK : K ≤ 10) (hto : 7 ≤ to) (hl : l ≤ 1) (hI : jsI K to k u) : jsI K to (k + 1) u' := by
  obtain ⟨a, b, c, d, e, f⟩ := jsTerm_r hX h hw hK hto hl
  obtain ⟨i0, i1, i2, i3, i4⟩ := hI
  have f0 := f to hto (by omega) (by omega)
  have f1 := f (to + 1) (by omega) (by omega) (by omega)
  have f2 := f (to + 1 + 1) (by omega) (by omega) (by omega)
  have f3 := f (to + 3) (by omega) (by omega) (by omega)
  refine ⟨by rw [f0]; exact i0, jWf_a c f1 f2 i1, by rw [f3, jz_c f3]; exact i2, e, fun x hx => ?_⟩
  by_cases q : x = k
  · rw [q]; exact d
  · exact jWu_a c (fun j hj => f _ (by omega) (by omega) (by omega)) (i4 x (by omega))
theorem jsTl_r {X : jtX} (hX : ∀ q, X.1 q < 256) {nm : Nat → Nat} {K to : Nat} (hK : K ≤ 10) (hto : 7 ≤ to) {u' : jsS} {i' : Nat} : ∀ m l k u i, k + m = 5 → l ≤ 1 → jsTl X nm K to m l k u i = .inr (u', i') → jsW K u → jsI K to k u → ∃ k', k' ≤ 4 ∧ jsI K to k' u' ∧ jsW K u' ∧ u.2 ≤ u'.2 ∧ ∀ q, 7 ≤ q → ¬ (to + 4 ≤ q ∧ q < to + 21) → u'.1 q = u.1 q
  | 0, l, k, u, i, _, _, h, _, _ => by cases h
  | m + 1, l, k, u, i, hkm, hl, h, hw, hI => by
    rw [jsTl] at h
    obtain ⟨⟨u1, i1⟩, e1, e2⟩ := jwB_r h
    obtain ⟨a, b, c, d, e, f⟩ := jsTerm_r hX e1 hw hK hto hl
    have I1 := jsTerm_I hX e1 hw hK hto hl hI
    by_cases q : jtK X i1 = 43 ∨ jtK X i1 = 45
    · rw [jaIf1_t q] at e2
      obtain ⟨k', r1, r2, r3, r4, r5⟩ := jsTl_r hX hK hto m _ (k + 1) u1 (i1 + 1) (by omega) jaBn_le e2 b I1
      exact ⟨k', r1, r2, r3, by omega, fun q h1 h2 => (r5 q h1 h2).trans (f q h1 (by omega) (by omega))⟩
    · rw [jaIf1_f q] at e2
      cases e2
      exact ⟨k + 1, by omega, I1, b, c, fun q h1 h2 => f q h1 (by omega) (by omega)⟩
theorem jsHd_W {K to nd r c : Nat} {t : Option Nat} {u : jsS} (hw : jsW K u) (hto : 7 ≤ to) (hn : nd ≤ 1) (hr : r < K) (hK : K ≤ 10) (ht : ∀ j, t = some j → j < u.2) (hc : 60 ≤ c) (hc2 : c ≤ 62) : jsW K (jsHd u.1 to nd r t c, u.2) ∧ jsI K to 0 (jsHd u.1 to nd r t c, u.2) ∧ ∀ q, 7 ≤ q → ¬ (to ≤ q ∧ q < to + 5) → jsHd u.1 to nd r t c q = u.1 q := by
  have ne : ∀ q, ¬ (to ≤ q ∧ q < to + 5) → jsHd u.1 to nd r t c q = u.1 q := fun q hq => by
    unfold jsHd
    rw [jaPt_ne (by omega), jaPt_ne (by omega), jaPt_ne (by omega), jaPt_ne (by omega), jaPt_ne (by omega)]
  have e0 : jsHd u.1 to nd r t c to = nI nd := by
    unfold jsHd
    rw [jaPt_ne (by omega), jaPt_ne (by omega), jaPt_ne (by omega), jaPt_ne (by omega), jaPt_eq]
  have e1 : jsHd u.1 to nd r t c (to + 1) = nI r := by
    unfold jsHd
    rw [jaPt_ne (by omega), jaPt_ne (by omega), jaPt_ne (by omega), jaPt_eq]
  have e2 : jsHd u.1 to nd r t c (to + 1 + 1) = jvOp t nI := by
    unfold jsHd
    rw [jaPt_ne (by omega), jaPt_ne (by omega), jaPt_eq]
  have e3 : jsHd u.1 to nd r t c (to + 3) = nI c := jaPt_eq
  have e4 : jsHd u.1 to nd r t c (to + 4) = nI 0 := by
    unfold jsHd
    rw [jaPt_ne (by omega), jaPt_eq]
  generalize jsHd u.1 to nd r t c = P at *
  refine ⟨⟨hw.1, fun j hj => ?_⟩, ⟨?_, ?_, ?_, e4, fun x hx => absurd hx (by omega)⟩, fun q _ h => ne q h⟩
  · have hj : j < u.2 := hj
    have h4 := hw.1
    show P (3 + j) = nI (jaIx (P (3 + j))) ∧ jaIx (P (3 + j)) < K
    rw [ne _ (by omega)]
    exact hw.2 j hj
  · show P to = _ ∨ P to = _
    rw [e0]
    rcases Nat.le_one_iff_eq_zero_or_eq_one.mp hn with z | z
    · rw [z]; exact Or.inl rfl
    · rw [z]; exact Or.inr rfl
  · show P (to + 1) = nI (jaIx (P (to + 1))) ∧ jaIx (P (to + 1)) < K ∧ (P (to + 1 + 1) = -1 ∨ (P (to + 1 + 1) = nI (jaIx (P (to + 1 + 1))) ∧ jaIx (P (to + 1 + 1)) < u.2))
    rw [e1, e2, jaIx_nI (by omega)]
    exact ⟨rfl, hr, jsOp ht hw.1⟩
  · show P (to + 3) = nI (jaIx (P (to + 3))) ∧ 60 ≤ jaIx (P (to + 3)) ∧ jaIx (P (to + 3)) ≤ 62
    rw [e3, jaIx_nI (by omega)]
    exact ⟨rfl, hc, hc2⟩
theorem jsStep_r {X : jtX} (hX : ∀ q, X.1 q < 256) {nm : Nat → Nat} {K st : Nat} {u u' : jsS} {i i' : Nat} (h : jsStep X nm K st u i = .inr (u', i')) (hw : jsW K u) (hK : K ≤ 10) : st ≠ 6 ∧ jsW K u' ∧ u.2 ≤ u'.2 ∧ jWt K u'.2 u'.1 (7 + 21 * st) ∧ ∀ q, 7 ≤ q → ¬ (7 + 21 * st ≤ q ∧ q < 28 + 21 * st) → u'.1 q = u.1 q := by
  unfold jsStep jsNeed jsGive at h
  by_cases q1 : jtK X i = 107
  · rw [jaIf1_t q1] at h
    by_cases q2 : st = 6
    · rw [jaIf1_t q2] at h; cases h
    · rw [jaIf1_f q2] at h
      obtain ⟨⟨u1, r1, t1, i1⟩, e1, e2⟩ := jwB_r h
      obtain ⟨a, b, c, d, e, f⟩ := jsRef_r e1 hw hK
      by_cases q3 : 60 ≤ jtK X i1 ∧ jtK X i1 ≤ 62
      · rw [jaIf1_t q3] at e2
        obtain ⟨w1, w2, w3⟩ := jsHd_W (to := 7 + 21 * st) (nd := 1) (c := jtK X i1) b (by omega) (by omega) d hK e q3.1 q3.2
        obtain ⟨g1, g2, g3, g4, g5, g6⟩ := jsTerm_r hX e2 w1 hK (by omega) (by omega)
        have I1 := jsTerm_I hX e2 w1 hK (by omega) (by omega) w2
        refine ⟨q2, g2, Nat.le_trans c g3, jsI_t I1 (by omega), fun q h1 h2 => ?_⟩
        rw [g6 q h1 (by omega) (by omega)]
        exact (w3 q h1 (by omega)).trans (f q h1)
      · rw [jaIf1_f q3] at e2; cases e2
  · rw [jaIf1_f q1] at h
    obtain ⟨⟨u1, r1, t1, i1⟩, e1, e2⟩ := jwB_r h
    obtain ⟨a, b, c, d, e, f⟩ := jsRef_r e1 hw hK
    by_cases q3 : jtK X i1 = 61
    · rw [jaIf1_t q3] at e2
      obtain ⟨w1, w2, w3⟩ := jsHd_W (to := 7 + 21 * st) (nd := 0) (c := 61) b (by omega) (by omega) d hK e (by omega) (by omega)
      obtain ⟨k', g1, g2, g3, g4, g5⟩ := jsTl_r hX hK (by omega) 5 0 0 _ _ rfl (by omega) e2 w1 w2
      refine ⟨a, g3, Nat.le_trans c g4, jsI_t g2 g1, fun q h1 h2 => ?_⟩
      rw [g5 q h1 (by omega)]
      exact (w3 q h1 (by omega)).trans (f q h1)
    · rw [jaIf1_f q3] at e2; cases e2
theorem jsSs_r {X : jtX} (hX : ∀ q, X.1 q < 256) {nm : Nat → Nat} {K st : Nat} {u u' : jsS} {i i' : Nat} (h : jsSs X nm K st u i = .inr (u', i')) (hw : jsW K u) (hK : K ≤ 10) : st ≠ 6 ∧ jsW K u' ∧ u.2 ≤ u'.2 ∧ jWt K u'.2 u'.1 (7 + 21 * st) ∧ ∀ q, 7 ≤ q → ¬ (7 + 21 * st ≤ q ∧ q < 28 + 21 * st) → u'.1 q = u.1 q := by
  unfold jsSs at h
  obtain ⟨⟨u1, i1⟩, e1, e2⟩ := jwB_r h
  by_cases q : jtK X i1 = 59
  · rw [jaIf1_t q] at e2
    cases e2
    exact jsStep_r hX e1 hw hK
  · rw [jaIf1_f q] at e2
    cases e2
theorem jWt_a {K a a' : Nat} {d d' : jvA} {t : Nat} (ha : a ≤ a') (hd : ∀ j, j < 21 → d' (t + j) = d (t + j)) (h : jWt K a d t) : jWt K a' d' t := by
  obtain ⟨h0, h1, h2, h3, h4⟩ := jWt_m hd h
  exact ⟨h0, jWf_a ha rfl rfl h1, h2, h3, fun x hx => jWu_a ha (fun _ _ => rfl) (h4 x hx)⟩
theorem jsAll_r {X : jtX} (hX : ∀ q, X.1 q < 256) {nm : Nat → Nat} {K : Nat} (hK : K ≤ 10) {u' : jsS} {n' : Nat} : ∀ m st u i, st + m = 7 → jsAll X nm K m st u i = .inr (u', n') → jsW K u → (∀ x, x < st → jWt K u.2 u.1 (7 + 21 * x)) → 1 ≤ n' ∧ n' ≤ 6 ∧ 1 ≤ K ∧ jsW K u' ∧ ∀ x, x < n' → jWt K u'.2 u'.1 (7 + 21 * x)
  | 0, st, u, i, _, h, _, _ => by cases h
  | m + 1, st, u, i, hm, h, hw, ht => by
    rw [jsAll] at h
    by_cases q : 0 < st ∧ jtK X i = 1
    · rw [jaIf1_t q] at h
      cases h
      have := (ht 0 q.1).2.1.2.1
      exact ⟨q.1, by omega, by omega, hw, ht⟩
    · rw [jaIf1_f q] at h
      obtain ⟨⟨u1, i1⟩, e1, e2⟩ := jwB_r h
      obtain ⟨a, b, c, d, e⟩ := jsSs_r hX e1 hw hK
      refine jsAll_r hX hK m (st + 1) u1 i1 (by omega) e2 b (fun x hx => ?_)
      by_cases q3 : x = st
      · rw [q3]; exact d
      · exact jWt_a c (fun j hj => e _ (by omega) (by omega)) (ht x (by omega))
end
