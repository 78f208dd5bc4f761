section
/-! a transaction is put, a copy crashes: what stays well -/
theorem jWf_m {k a : Nat} {d d' : jvA} {p p' : Nat} (h0 : d' p' = d p) (h1 : d' (p' + 1) = d (p + 1)) (h : jWf k a d p) : jWf k a d' p' := by
  unfold jWf
  rw [h0, h1, show jz d' p' = jz d p from congrArg jaIx h0, show jz d' (p' + 1) = jz d (p + 1) from congrArg jaIx h1]
  exact h
theorem jWt_m {k a : Nat} {d d' : jvA} {t t' : Nat} (h : ∀ j, j < 21 → d' (t' + j) = d (t + j)) (hw : jWt k a d t) : jWt k a d' t' := by
  have hz : ∀ j, j < 21 → jz d' (t' + j) = jz d (t + j) := fun j hj => congrArg jaIx (h j hj)
  obtain ⟨h0, h1, h2, h3, h4⟩ := hw
  have e0 := h 0 (by decide)
  simp only [Nat.add_zero] at e0
  unfold jWt
  rw [e0, h 3 (by decide), h 4 (by decide), hz 3 (by decide), hz 4 (by decide)]
  refine ⟨h0, jWf_m (h 1 (by decide)) (h 2 (by decide)) h1, h2, h3, fun x hx => ?_⟩
  obtain ⟨u1, u2⟩ := h4 x hx
  have ha : ∀ j, j < 4 → d' (t' + 5 + 4 * x + j) = d (t + 5 + 4 * x + j) := fun j hj => by
    have := h (5 + 4 * x + j) (by omega)
    rwa [show t' + (5 + 4 * x + j) = t' + 5 + 4 * x + j by omega, show t + (5 + 4 * x + j) = t + 5 + 4 * x + j by omega] at this
  have e1 := ha 0 (by decide)
  simp only [Nat.add_zero] at e1
  unfold jWu
  rw [e1, ha 1 (by decide), ha 3 (by decide), show jz d' (t' + 5 + 4 * x + 1) = jz d (t + 5 + 4 * x + 1) from congrArg jaIx (ha 1 (by decide))]
  refine ⟨?_, u2⟩
  rcases u1 with u1 | u1
  · exact Or.inl u1
  · exact Or.inr ⟨u1.1, jWf_m (ha 1 (by decide)) (ha 2 (by decide)) u1.2⟩
theorem jWn_m {k : Nat} {d d' : jvA} {n n' : Nat} (h : ∀ j, 1 ≤ j → j < 133 → d' (133 * n' + j) = d (133 * n + j)) (h0 : d' (133 * n') = nI (jz d' (133 * n')) ∧ jz d' (133 * n') < 3) (hw : jWn k d n) : jWn k d' n' := by
  have hz : ∀ j, 1 ≤ j → j < 133 → jz d' (133 * n' + j) = jz d (133 * n + j) := fun j h1 hj => congrArg jaIx (h j h1 hj)
  obtain ⟨hk1, -, hd1, hd2, hda, hds⟩ := hw
  unfold jWn
  rw [h 1 (by decide) (by decide), h 2 (by decide) (by decide), hz 1 (by decide) (by decide), hz 2 (by decide) (by decide)]
  refine ⟨hk1, h0, hd1, hd2, fun j hj => ?_, fun i hi => ?_⟩
  · have e1 := h (3 + j) (by omega) (by omega)
    have e2 := hz (3 + j) (by omega) (by omega)
    rw [← Nat.add_assoc, ← Nat.add_assoc] at e1 e2
    rw [e1, e2]
    exact hda j hj
  · refine jWt_m (fun j hj => ?_) (hds i hi)
    have e1 := h (7 + 21 * i + j) (by omega) (by omega)
    rwa [show 133 * n' + (7 + 21 * i + j) = 133 * n' + 7 + 21 * i + j by omega, show 133 * n + (7 + 21 * i + j) = 133 * n + 7 + 21 * i + j by omega] at e1
theorem jvWs_0 {d e : jvA} {id b : Nat} : jvWs d e id b 0 = nI 0 := rfl
theorem jvWs_d {d d' e : jvA} {id b : Nat} (h : ∀ j, j < 133 → d' (b + j) = d (b + j)) : ∀ m, m ≤ 6 → jvWs d' e id b m = jvWs d e id b m := by
  intro m
  induction m with
  | zero => intro _; rw [jvWs_0, jvWs_0]
  | succ m ih =>
    intro hm
    have e0 : d' (b + 7 + 21 * m) = d (b + 7 + 21 * m) := by
      rw [show b + 7 + 21 * m = b + (7 + 21 * m) by omega]
      exact h _ (by omega)
    have e1 : d' (b + 7 + 21 * m + 1) = d (b + 7 + 21 * m + 1) := by
      rw [show b + 7 + 21 * m + 1 = b + (8 + 21 * m) by omega]
      exact h _ (by omega)
    have e2 : d' (b + 7 + 21 * m + 1 + 1) = d (b + 7 + 21 * m + 1 + 1) := by
      rw [show b + 7 + 21 * m + 1 + 1 = b + (9 + 21 * m) by omega]
      exact h _ (by omega)
    have ek : jvKey d' e id (b + 7 + 21 * m + 1) = jvKey d e id (b + 7 + 21 * m + 1) := by
      unfold jvKey
      rw [e1, e2]
    show jaIf1 (d' (b + 7 + 21 * m) = 0) (jvWs d' e id b m ||| jaMk (jvKey d' e id (b + 7 + 21 * m + 1))) (jvWs d' e id b m) = jaIf1 (d (b + 7 + 21 * m) = 0) (jvWs d e id b m ||| jaMk (jvKey d e id (b + 7 + 21 * m + 1))) (jvWs d e id b m)
    rw [ih (by omega), e0, ek]
theorem jWi_d {k m m' : Nat} {d d' e : jvA} {id : Nat} (hm : m ≤ m') (h : ∀ n, n < m → ∀ j, j < 133 → d' (133 * n + j) = d (133 * n + j)) (hd : ∀ n, n < m → jWn k d n) (hw : jWi k m d e id) : jWi k m' d' e id := by
  obtain ⟨h1, h2, h3, h4, h5⟩ := hw
  have h' := h _ h1.2
  have e0 := h' 0 (by decide)
  simp only [Nat.add_zero] at e0
  have e2 : jz d' (133 * jz e (9 * id) + 2) = jz d (133 * jz e (9 * id) + 2) := congrArg jaIx (h' 2 (by decide))
  have e1 : jz d' (133 * jz e (9 * id) + 1) = jz d (133 * jz e (9 * id) + 1) := congrArg jaIx (h' 1 (by decide))
  have h6 := (hd _ h1.2).2.2.1.2
  unfold jWi
  rw [e0, e1, e2, jvWs_d h' _ h6]
  exact ⟨⟨h1.1, by omega⟩, h2, h3, h4, h5⟩
theorem jvPd_old {d : jvA} {m n j : Nat} {x : Int32} (h : j < 133 * m) : jvPd d m n x j = d j := by
  unfold jvPd
  rw [if_neg (by omega), if_neg (by omega)]
theorem jvPd_0 {d : jvA} {m n : Nat} {x : Int32} : jvPd d m n x (133 * m) = x := if_pos rfl
theorem jvPd_new {d : jvA} {m n j : Nat} {x : Int32} (h1 : 1 ≤ j) (h : j < 133) : jvPd d m n x (133 * m + j) = d (133 * n + j) := by
  unfold jvPd
  rw [if_neg (by omega), if_pos (by omega)]
  congr 1
  omega
theorem jvNew_W {s d e : jvA} (h : jW s d e) (h24 : jz s 32 < 24) (hn : jWn (jz s 1) d (jz s 32)) : jW (jvComeS (jaPt s 32 (s 32 + nI 1))) d (jvComeE (jaPt s 32 (s 32 + nI 1)) d e (jz s 32)) ∧ jz s 33 < 64 := by
  have hC := h.o.came.2
  have hP := h.o.pool
  have hk := h.k
  have hc := h.c
  have ht := h.t
  have hO := h.O
  obtain ⟨h0, h1, h2, h3, h4, h5, h6, h7, h8, h9, h10, h11⟩ := h.o
  have ne : ∀ j, j ≠ 32 → jaPt s 32 (s 32 + nI 1) j = s j := fun j hj => jaPt_ne hj
  have nz : ∀ j, j ≠ 32 → jz (jaPt s 32 (s 32 + nI 1)) j = jz s j := fun j hj => jz_c (ne j hj)
  have e32 : jaPt s 32 (s 32 + nI 1) 32 = nI (jz s 32 + 1) := by rw [jaPt_eq, h0.1, nI_add]
  have z32 : jz (jaPt s 32 (s 32 + nI 1)) 32 = jz s 32 + 1 := (congrArg jaIx e32).trans (jaIx_nI (by omega))
  generalize jaPt s 32 (s 32 + nI 1) = p at *
  have key := jvCome_wf (s := p) (d := d) (e := e) (n := jz s 32) (jWw_c (fun j hj => ne j (by omega)) h.w) (fun n hn' => ?_) (fun id hid => ?_)
  · rw [z32, nz 33 (by omega), nz 34 (by omega), nz 35 (by omega), ne 33 (by omega), ne 34 (by omega), ne 35 (by omega), e32] at key
    have q := key (by omega) ⟨rfl, by omega⟩ h1 h2 h3 h4 ?_ (fun i hi => by rw [ne (41 + i) (by omega), nz (41 + i) (by omega)]; exact h6 i hi) (fun i hi => by rw [ne (81 + i) (by omega), nz (81 + i) (by omega)]; exact h7 i hi)
      (fun i j hi hj => by rw [nz (81 + i) (by omega), nz (81 + j) (by omega)]; exact h8 i j hi hj) (fun i j hi hj => by rw [nz (41 + i) (by omega), nz (41 + j) (by omega)]; exact h9 i j hi hj) (fun i j hi hj => by rw [nz (41 + i) (by omega), nz (81 + j) (by omega)]; exact h10 i j hi hj) (fun j hj => by rw [ne (415 + j) (by omega)]; exact h11 j hj)
    · obtain ⟨q1, q2⟩ := q
      have ne2 : ∀ j, j ≠ 32 → j ≠ 33 → j ≠ 35 → ¬ (81 ≤ j ∧ j < 145) → jvComeS p j = s j := fun j a b c f => by
        rw [jvComeS_ne b c (by rw [nz 35 (by omega)]; omega), ne j a]
      refine ⟨⟨q1.1, q1.2.1, q1.2.2.1, q1.2.2.2, jWc_c (fun j hj => ne2 j (by omega) (by omega) (by omega) (by omega)) hc, jWk_c (fun j hj => ne2 j (by omega) (by omega) (by omega) (by omega)) (fun _ => ne2 39 (by omega) (by omega) (by omega) (by omega)) hO hk, ?_⟩, q2⟩
      show jvComeS p 31 = nI (jz (jvComeS p) 31)
      rw [jz_c (ne2 31 (by omega) (by omega) (by omega) (by omega)), ne2 31 (by omega) (by omega) (by omega) (by omega)]
      exact ht
    · rw [jaCnt_c (p := fun i => p (415 + i) = nI 1) (q := fun i => s (415 + i) = nI 1) _ (fun i hi => by rw [ne (415 + i) (by omega)])]
      omega
  · rw [z32] at hn'
    rw [nz 1 (by omega)]
    by_cases q : n = jz s 32
    · rw [q]; exact hn
    · exact h.d n (by omega)
  · rw [nz 33 (by omega)] at hid
    rw [nz 1 (by omega), z32]
    exact jWi_d (by omega) (fun _ _ _ _ => rfl) (fun n hn => h.d n hn) (h.e id hid)
/-- a row behind all others may be written anew -/
theorem jW_d {s d d' e : jvA} (h : jW s d e) (hd : ∀ j, j < 133 * jz s 32 → d' j = d j) : jW s d' e := by
  refine ⟨h.w, fun n hn => jWn_m (fun j h1 h2 => hd _ (by omega)) ?_ (h.d n hn), fun id hid => jWi_d (Nat.le_refl _) (fun n hn j hj => hd _ (by omega)) (fun n hn => h.d n hn) (h.e id hid), h.o, h.c, h.k, h.t⟩
  have e1 : d' (133 * n) = d (133 * n) := hd _ (by omega)
  rw [show jz d' (133 * n) = jz d (133 * n) from congrArg jaIx e1, e1]
  exact (h.d n hn).2.1
theorem jW_e {s d e e' : jvA} (h : jW s d e) (he : ∀ j, j < 9 * jz s 33 → e' j = e j) : jW s d e' :=
  ⟨h.w, h.d, fun id hid => jWi_old (h.e id hid) (fun n hn => h.d n hn) (fun j hj => he _ (by omega)), h.o, h.c, h.k, h.t⟩
theorem jvPuts_W {s d e : jvA} {x : Int32} {n : Nat} (h : jW s d e) (h24 : jz s 32 < 24) (hn : n < jz s 32) (hx : x = nI (jaIx x)) (hx3 : jaIx x < 3) : jW (jvPuts s d e x n).1 (jvPuts s d e x n).2.1 (jvPuts s d e x n).2.2 ∧ jz s 33 < 64 := by
  refine jvNew_W (d := jvPd d (jz s 32) n x) (jW_d h (fun j hj => jvPd_old hj)) h24 (jWn_m (fun j h1 h2 => jvPd_new h1 h2) ?_ (h.d n hn))
  unfold jz
  rw [jvPd_0]
  exact ⟨hx, hx3⟩
theorem jvCr1_at {s : jvA} {c j : Nat} (hc : c < 3) : ∀ n, n ≤ 10 → jvCr1 c s n j = jaIf1 (145 + 10 * c ≤ j ∧ j < 145 + 10 * c + n) (s (475 + (j - (145 + 10 * c)))) (s j)
  | 0, _ => (jaIf1_f (by omega)).symm
  | n + 1, hn => by
    have e1 : jvCr1 c s n (475 + n) = s (475 + n) := by rw [jvCr1_at hc n (by omega), jaIf1_f (by omega)]
    show jaPt (jvCr1 c s n) (145 + 10 * c + n) (jvCr1 c s n (475 + n)) j = _
    rw [e1]
    by_cases h1 : j = 145 + 10 * c + n
    · rw [h1, jaPt_eq, jaIf1_t (show 145 + 10 * c ≤ 145 + 10 * c + n ∧ 145 + 10 * c + n < 145 + 10 * c + (n + 1) by omega), show 145 + 10 * c + n - (145 + 10 * c) = n by omega]
    · rw [jaPt_ne h1, jvCr1_at hc n (by omega)]
      by_cases h3 : 145 + 10 * c ≤ j ∧ j < 145 + 10 * c + n
      · rw [jaIf1_t h3, jaIf1_t (show 145 + 10 * c ≤ j ∧ j < 145 + 10 * c + (n + 1) by omega)]
      · rw [jaIf1_f h3, jaIf1_f (show ¬ (145 + 10 * c ≤ j ∧ j < 145 + 10 * c + (n + 1)) by omega)]
theorem jvCr2_at {s : jvA} {c j : Nat} (hc : c < 3) : ∀ n, n ≤ 40 → jvCr2 c s n j = jaIf1 (175 + 40 * c ≤ j ∧ j < 175 + 40 * c + n) (jaIf1 (s 40 ≤ nI (j - (175 + 40 * c))) (nI 0) (s (485 + (j - (175 + 40 * c))))) (jaIf1 (295 + 40 * c ≤ j ∧ j < 295 + 40 * c + n) (nI 0) (s j))
  | 0, _ => by rw [jaIf1_f (by omega), jaIf1_f (by omega)]; rfl
  | n + 1, hn => by
    have e1 : jvCr2 c s n (485 + n) = s (485 + n) := by rw [jvCr2_at hc n (by omega), jaIf1_f (by omega), jaIf1_f (by omega)]
    have e2 : jvCr2 c s n 40 = s 40 := by rw [jvCr2_at hc n (by omega), jaIf1_f (by omega), jaIf1_f (by omega)]
    show jaPt (jaPt (jvCr2 c s n) (175 + 40 * c + n) (jaIf1 (jvCr2 c s n 40 ≤ nI n) (nI 0) (jvCr2 c s n (485 + n)))) (295 + 40 * c + n) (nI 0) j = _
    rw [e1, e2]
    by_cases h1 : j = 295 + 40 * c + n
    · rw [h1, jaPt_eq, jaIf1_f (show ¬ (175 + 40 * c ≤ 295 + 40 * c + n ∧ 295 + 40 * c + n < 175 + 40 * c + (n + 1)) by omega), jaIf1_t (show 295 + 40 * c ≤ 295 + 40 * c + n ∧ 295 + 40 * c + n < 295 + 40 * c + (n + 1) by omega)]
    · rw [jaPt_ne h1]
      by_cases h2 : j = 175 + 40 * c + n
      · rw [h2, jaPt_eq, jaIf1_t (show 175 + 40 * c ≤ 175 + 40 * c + n ∧ 175 + 40 * c + n < 175 + 40 * c + (n + 1) by omega), show 175 + 40 * c + n - (175 + 40 * c) = n by omega]
      · rw [jaPt_ne h2, jvCr2_at hc n (by omega)]
        by_cases h3 : 175 + 40 * c ≤ j ∧ j < 175 + 40 * c + n
        · rw [jaIf1_t h3, jaIf1_t (show 175 + 40 * c ≤ j ∧ j < 175 + 40 * c + (n + 1) by omega)]
        · rw [jaIf1_f h3, jaIf1_f (show ¬ (175 + 40 * c ≤ j ∧ j < 175 + 40 * c + (n + 1)) by omega)]
          by_cases h4 : 295 + 40 * c ≤ j ∧ j < 295 + 40 * c + n
          · rw [jaIf1_t h4, jaIf1_t (show 295 + 40 * c ≤ j ∧ j < 295 + 40 * c + (n + 1) by omega)]
          · rw [jaIf1_f h4, jaIf1_f (show ¬ (295 + 40 * c ≤ j ∧ j < 295 + 40 * c + (n + 1)) by omega)]
/-- the state ahead of the crash: a check of copy 0 is given up -/
noncomputable def jvC0 (s : jvA) (c : Nat) : jvA := jaIf1 (c = 0) (jvCe s) s
theorem jvC0_ne {s : jvA} {c j : Nat} (h : ¬ ((36 ≤ j ∧ j ≤ 39) ∨ (455 ≤ j ∧ j < 475))) : jvC0 s c j = s j := by
  unfold jvC0
  by_cases q : c = 0
  · rw [jaIf1_t q, jvCe_ne h]
  · rw [jaIf1_f q]
theorem jvCr_ne {s : jvA} {c j : Nat} (hc : c < 3) (h : ¬ (145 + 10 * c ≤ j ∧ j < 155 + 10 * c) ∧ ¬ (175 + 40 * c ≤ j ∧ j < 215 + 40 * c) ∧ ¬ (295 + 40 * c ≤ j ∧ j < 335 + 40 * c)) : jvCr s c j = jvC0 s c j := by
  show jvCr2 c (jvCr1 c (jvC0 s c) 10) 40 j = _
  rw [jvCr2_at hc _ (Nat.le_refl _), jaIf1_f (by omega), jaIf1_f (by omega), jvCr1_at hc _ (Nat.le_refl _), jaIf1_f (by omega)]
theorem jvCr_v {s : jvA} {c k : Nat} (hc : c < 3) (hk : k < 10) : jvCr s c (145 + 10 * c + k) = s (475 + k) := by
  show jvCr2 c (jvCr1 c (jvC0 s c) 10) 40 _ = _
  rw [jvCr2_at hc _ (Nat.le_refl _), jaIf1_f (by omega), jaIf1_f (by omega), jvCr1_at hc _ (Nat.le_refl _), jaIf1_t (by omega), jvC0_ne (by omega)]
  congr 1
  omega
theorem jvCr_h {s : jvA} {c i : Nat} (hc : c < 3) (hi : i < 40) : jvCr s c (175 + 40 * c + i) = jaIf1 (s 40 ≤ nI i) (nI 0) (s (485 + i)) := by
  show jvCr2 c (jvCr1 c (jvC0 s c) 10) 40 _ = _
  rw [jvCr2_at hc _ (Nat.le_refl _), jaIf1_t (show 175 + 40 * c ≤ 175 + 40 * c + i ∧ 175 + 40 * c + i < 175 + 40 * c + 40 by omega), show 175 + 40 * c + i - (175 + 40 * c) = i by omega]
  congr 1
  · rw [jvCr1_at hc _ (Nat.le_refl _), jaIf1_f (by omega), jvC0_ne (by omega)]
  · rw [jvCr1_at hc _ (Nat.le_refl _), jaIf1_f (by omega), jvC0_ne (by omega)]
theorem jvCr_W {s d e : jvA} {c : Nat} (h : jW s d e) (hc : c < 3) : jW (jvCr s c) d e := by
  have hO := h.O
  have ne : ∀ j, ¬ ((36 ≤ j ∧ j ≤ 39) ∨ (455 ≤ j ∧ j < 475)) → ¬ (145 + 10 * c ≤ j ∧ j < 155 + 10 * c) ∧ ¬ (175 + 40 * c ≤ j ∧ j < 215 + 40 * c) ∧ ¬ (295 + 40 * c ≤ j ∧ j < 335 + 40 * c) → jvCr s c j = s j := fun j h1 h2 => (jvCr_ne hc h2).trans (jvC0_ne h1)
  obtain ⟨a1, a2, a3, a4⟩ := jX_c (s' := jvCr s c) (fun j hj => ne j (by omega) (by omega)) h.X
  obtain ⟨k1, k2, k3⟩ := h.k
  refine ⟨a1, a2, a3, a4, fun c' i hc' hi => ?_, ⟨?_, ?_, fun i hi => ?_⟩, ?_⟩
  · show jWc1 (jvCr s c) c' i
    by_cases q : c' = c
    · subst q
      have e34 := ne 34 (by omega) (by omega)
      unfold jWc1
      rw [jz_c e34, jz, jvCr_h hc hi]
      by_cases q2 : s 40 ≤ nI i
      · rw [jaIf1_t q2]
        exact ⟨by decide, fun _ => rfl, fun q => absurd q (by decide)⟩
      · rw [jaIf1_f q2]
        have hlt : i < jz s 40 := by
          rw [k2.1, nI_le' (by omega) (by omega)] at q2
          omega
        obtain ⟨b1, b2, b3⟩ := k3 i hlt
        refine ⟨⟨b1, b3⟩, fun q3 => absurd q3 (by omega), fun q3 => ?_⟩
        rw [b1, nI_eq' (by omega) (by omega)] at q3
        omega
    · exact jWc1_c (ne _ (by omega) (by omega)) (ne _ (by omega) (by omega)) (ne _ (by omega) (by omega)) (h.c c' i hc' hi)
  · by_cases q : c = 0
    · subst q
      have e : ∀ j, (36 ≤ j ∧ j ≤ 39) → jvCr s 0 j = nI 0 := fun j hj => by
        rw [jvCr_ne (by decide) (by omega)]
        unfold jvC0
        rw [jaIf1_t rfl, jvCe_in (Or.inl hj)]
      exact Or.inl ⟨e 36 (by omega), e 37 (by omega), e 38 (by omega), e 39 (by omega)⟩
    · have e : ∀ j, j = 1 ∨ (34 ≤ j ∧ j ≤ 39) → jvCr s c j = s j := fun j hj => by
        rw [jvCr_ne hc (by omega)]
        unfold jvC0
        rw [jaIf1_f q]
      rw [e 36 (by omega), e 37 (by omega), e 38 (by omega), e 39 (by omega), jz_c (e 37 (by omega)), jz_c (e 34 (by omega)), jz_c (e 38 (by omega)), jz_c (e 1 (by omega))]
      exact k1
  · rw [ne 40 (by omega) (by omega), jz_c (ne 40 (by omega) (by omega)), jz_c (ne 34 (by omega) (by omega))]
    exact k2
  · rw [jz_c (ne 40 (by omega) (by omega))] at hi
    rw [ne (485 + i) (by omega) (by omega), jz_c (ne (485 + i) (by omega) (by omega))]
    exact k3 i hi
  · show jvCr s c 31 = nI (jz (jvCr s c) 31)
    rw [jz_c (ne 31 (by omega) (by omega)), ne 31 (by omega) (by omega)]
    exact h.t
/-! rows copied -/
def jvCp (f : jvA) (a : Nat) (g : jvA) (b n : Nat) : jvA := fun j => if a ≤ j ∧ j < a + n then g (b + (j - a)) else f j
theorem jvCp_0 {f g : jvA} {a b : Nat} : jvCp f a g b 0 = f := by
  funext j
  unfold jvCp
  rw [if_neg (by omega)]
theorem jvCp_s {f g : jvA} {a b n : Nat} : jvCp f a g b (n + 1) = jaPt (jvCp f a g b n) (a + n) (g (b + n)) := by
  funext j
  show (if a ≤ j ∧ j < a + (n + 1) then g (b + (j - a)) else f j) = (if j = a + n then g (b + n) else if a ≤ j ∧ j < a + n then g (b + (j - a)) else f j)
  by_cases h : j = a + n
  · rw [if_pos (by omega), if_pos h, h, show b + (a + n - a) = b + n by omega]
  · rw [if_neg h]
    by_cases h2 : a ≤ j ∧ j < a + n
    · rw [if_pos (by omega), if_pos h2]
    · rw [if_neg (by omega), if_neg h2]
theorem jvCp_in {f g : jvA} {a b n j : Nat} (h : j < n) : jvCp f a g b n (a + j) = g (b + j) := by
  unfold jvCp
  rw [if_pos (by omega), show b + (a + j - a) = b + j by omega]
theorem jvCp_out {f g : jvA} {a b n j : Nat} (h : j < a ∨ a + n ≤ j) : jvCp f a g b n j = f j := by
  unfold jvCp
  rw [if_neg (by omega)]
end
