section
/-! what an entry's going does to the state: what stays, and that all stays well -/
def jX (s d e : jvA) : Prop := jWw s ∧ jWd s d ∧ jWe s d e ∧ jWo s
theorem jz_c {s s' : jvA} {j : Nat} (h : s' j = s j) : jz s' j = jz s j := congrArg jaIx h
theorem jWw_c {s s' : jvA} (h : ∀ j, j < 31 → s' j = s j) (hw : jWw s) : jWw s' := by
  have hz : ∀ j, j < 31 → jz s' j = jz s j := fun j hj => jz_c (h j hj)
  obtain ⟨h0, h1, h2, h3, h4, h5, h6⟩ := hw
  refine ⟨?_, ?_, ?_, ?_, ?_, fun k hk => ?_, fun c hc => ?_⟩
  · rw [h 0 (by decide), hz 0 (by decide)]; exact h0
  · rw [h 1 (by decide), hz 1 (by decide)]; exact h1
  · rw [h 2 (by decide), hz 2 (by decide)]; exact h2
  · rw [h 3 (by decide), hz 3 (by decide)]; exact h3
  · rw [h 4 (by decide), hz 4 (by decide)]; exact h4
  · rw [hz 1 (by decide)] at hk
    have := h1.2
    rw [h (5 + k) (by omega), hz (5 + k) (by omega), hz 0 (by decide)]; exact h5 k hk
  · rw [hz 2 (by decide)] at hc
    have := h2.2.2
    rw [h (25 + c) (by omega), hz (25 + c) (by omega), h (28 + c) (by omega)]; exact h6 c hc
theorem jWd_c {s s' d : jvA} (h1 : s' 1 = s 1) (h32 : s' 32 = s 32) (hd : jWd s d) : jWd s' d := by
  intro n hn
  rw [jz_c h1]
  exact hd n (by rw [jz_c h32] at hn; exact hn)
theorem jWe_c {s s' d e : jvA} (h1 : s' 1 = s 1) (h32 : s' 32 = s 32) (h33 : s' 33 = s 33) (he : jWe s d e) : jWe s' d e := by
  intro id hid
  rw [jz_c h1, jz_c h32]
  exact he id (by rw [jz_c h33] at hid; exact hid)
/-- what jX speaks of -/
theorem jWo_c {s s' : jvA} (h : ∀ j, (32 ≤ j ∧ j < 36) ∨ (41 ≤ j ∧ j < 145) ∨ (415 ≤ j ∧ j < 455) → s' j = s j) (ho : jWo s) : jWo s' := by
  have hz : ∀ j, (32 ≤ j ∧ j < 36) ∨ (41 ≤ j ∧ j < 145) ∨ (415 ≤ j ∧ j < 455) → jz s' j = jz s j := fun j hj => jz_c (h j hj)
  have hc64 := ho.came.2
  obtain ⟨h0, h1, h2, h3, h4, h5, h6, h7, h8, h9, h10, h11⟩ := ho
  have hO := h2.2
  have e32 := h 32 (by omega)
  have e33 := h 33 (by omega)
  have e34 := h 34 (by omega)
  have e35 := h 35 (by omega)
  unfold jWo
  rw [jz_c e32, jz_c e33, jz_c e34, jz_c e35, e32, e33, e34, e35]
  refine ⟨h0, h1, h2, h3, h4, ?_, fun i hi => ?_, fun i hi => ?_, fun i j hi hj => ?_, fun i j hi hj => ?_, fun i j hi hj => ?_, fun i hi => ?_⟩
  · rw [h5]
    exact congrArg _ (jaCnt_c _ fun i hi => by rw [h (415 + i) (by omega)])
  · rw [h (41 + i) (by omega), hz (41 + i) (by omega)]; exact h6 i hi
  · rw [h (81 + i) (by omega), hz (81 + i) (by omega)]; exact h7 i hi
  · rw [hz (81 + i) (by omega), hz (81 + j) (by omega)]; exact h8 i j hi hj
  · rw [hz (41 + i) (by omega), hz (41 + j) (by omega)]; exact h9 i j hi hj
  · rw [hz (41 + i) (by omega), hz (81 + j) (by omega)]; exact h10 i j hi hj
  · rw [h (415 + i) (by omega)]; exact h11 i hi
theorem jX_c {s s' d e : jvA} (h : ∀ j, j < 31 ∨ (32 ≤ j ∧ j < 36) ∨ (41 ≤ j ∧ j < 145) ∨ (415 ≤ j ∧ j < 455) → s' j = s j) (hX : jX s d e) : jX s' d e :=
  ⟨jWw_c (fun j hj => h j (by omega)) hX.1, jWd_c (h 1 (by omega)) (h 32 (by omega)) hX.2.1, jWe_c (h 1 (by omega)) (h 32 (by omega)) (h 33 (by omega)) hX.2.2.1, jWo_c (fun j hj => h j (by omega)) hX.2.2.2⟩
theorem jvMod_n {v : Int32} {K : Nat} (h1 : 1 ≤ K) (h2 : K ≤ 10) : ∃ q, q < K ∧ jvMod v (nI K) = nI q := by
  have hK : (nI K).toInt = (K : Int) := nI_toInt (by omega)
  have hr := rem_toInt v (nI K)
  rw [hK] at hr
  have hb := tmod_bounds (a := v.toInt) (M := (K : Int)) (by omega)
  unfold jvMod
  generalize v - v / nI K * nI K = r at *
  by_cases q : 0 ≤ r
  · rw [jaIf1_t q]
    obtain ⟨j, hj, rfl⟩ := nI_of (x := r) (Int32.not_lt.mpr q)
    rw [nI_toInt hj] at hr
    exact ⟨j, by omega, rfl⟩
  · rw [jaIf1_f q]
    have hneg : r.toInt < 0 := by
      have := Int32.not_le.mp q
      rw [Int32.lt_iff_toInt_lt] at this
      exact this
    refine ⟨(r.toInt + K).toNat, by omega, Int32.toInt_inj.mp ?_⟩
    rw [Int32.toInt_add, hK, nI_toInt (by omega), Int.bmod_eq_of_le (by omega) (by omega)]
    omega
theorem jaCnt_lt {p : Nat → Prop} {i : Nat} (hp : ¬ p i) : ∀ {n : Nat}, i < n → jaCnt p n < n
  | 0, h => absurd h (by omega)
  | n + 1, h => by
    by_cases e : i = n
    · rw [← e, jaCnt_f hp]
      have := jaCnt_le (p := p) i
      omega
    · have h1 := jaCnt_lt hp (show i < n by omega)
      have h2 := jaBn_le (p := p n)
      show jaCnt p n + jaBn (p n) < n + 1
      omega
theorem jaCnt_upd {p q : Nat → Prop} {i : Nat} (hp : ¬ p i) (hq : q i) (ho : ∀ j, j ≠ i → (q j ↔ p j)) : ∀ {n : Nat}, i < n → jaCnt q n = jaCnt p n + 1
  | 0, h => absurd h (by omega)
  | n + 1, h => by
    by_cases e : i = n
    · rw [← e, jaCnt_f hp, jaCnt_t hq, jaCnt_c i (fun j hj => ho j (by omega))]
    · have h1 := jaCnt_upd hp hq ho (show i < n by omega)
      show jaCnt q n + jaBn (q n) = jaCnt p n + jaBn (p n) + 1
      rw [h1, jaBn_c (ho n (by omega))]
      omega
/-! what comes -/
theorem jvComeS_ne {s : jvA} {j : Nat} (h1 : j ≠ 33) (h2 : j ≠ 35) (h3 : j ≠ 81 + jz s 35) : jvComeS s j = s j := by
  unfold jvComeS
  rw [jaPt_ne h2, jaPt_ne h3, jaPt_ne h1]
theorem jvComeS_33 {s : jvA} : jvComeS s 33 = s 33 + nI 1 := by
  unfold jvComeS
  rw [jaPt_ne (by decide), jaPt_ne (by omega), jaPt_eq]
theorem jvComeS_35 {s : jvA} : jvComeS s 35 = s 35 + nI 1 := jaPt_eq
theorem jvComeS_new {s : jvA} : jvComeS s (81 + jz s 35) = s 33 := by
  unfold jvComeS
  rw [jaPt_ne (by omega), jaPt_eq]
theorem jvFore_ne {s d e : jvA} {b eb j : Nat} : ∀ m, (j < eb ∨ eb + m ≤ j) → jvFore s d b eb e m j = e j
  | 0, _ => rfl
  | m + 1, h => by
    show jaPt (jvFore s d b eb e m) (eb + m) _ j = e j
    rw [jaPt_ne (by omega), jvFore_ne m (by omega)]
theorem jvFore_at {s d e : jvA} {b eb j : Nat} : ∀ m, j < m → jvFore s d b eb e m (eb + j) = jvMod (s (145 + jz d (b + 3 + j))) (s 1)
  | 0, h => absurd h (by omega)
  | m + 1, h => by
    show jaPt (jvFore s d b eb e m) (eb + m) _ (eb + j) = _
    by_cases e1 : j = m
    · rw [e1, jaPt_eq]
    · rw [jaPt_ne (by omega), jvFore_at m (by omega)]
theorem jvKey_c {k a : Nat} {d e e' : jvA} {id p : Nat} (hf : jWf k a d p) (ha : a ≤ 4) (h : ∀ j, j < 4 → e' (9 * id + 5 + j) = e (9 * id + 5 + j)) : jvKey d e' id p = jvKey d e id p := by
  obtain ⟨_, _, h2 | ⟨h2, h3⟩⟩ := hf
  · rw [jvKey, jvKey, h2, jaIf1_f (by decide), jaIf1_f (by decide)]
  · rw [jvKey, jvKey, h2, jaIf1_t (nI_pos' (by omega)), jaIf1_t (nI_pos' (by omega)), jaIx_nI (by omega), h _ (by omega)]
theorem jvWs_c {k a : Nat} {d e e' : jvA} {id b N : Nat} (hds : ∀ i, i < N → jWt k a d (b + 7 + 21 * i)) (ha : a ≤ 4) (h : ∀ j, j < 4 → e' (9 * id + 5 + j) = e (9 * id + 5 + j)) : ∀ n, n ≤ N → jvWs d e' id b n = jvWs d e id b n
  | 0, _ => rfl
  | n + 1, hn => by
    show jaIf1 _ (jvWs d e' id b n ||| _) (jvWs d e' id b n) = jaIf1 _ (jvWs d e id b n ||| _) (jvWs d e id b n)
    rw [jvWs_c hds ha h n (by omega), jvKey_c (hds n (by omega)).2.1 ha h]
theorem jvComeE_old {s d e : jvA} {n j : Nat} (hj : j < 9 * jz s 33) : jvComeE s d e n j = e j := by
  simp only [jvComeE]
  rw [jaPt_ne (by omega), jaPt_ne (by omega), jaPt_ne (by omega), jaPt_ne (by omega), jaPt_ne (by omega), jvFore_ne _ (by omega)]
theorem jvComeE_fs {s d e : jvA} {n j : Nat} : jvComeE s d e n (9 * jz s 33 + 5 + j) = jvFore s d (133 * n) (9 * jz s 33 + 5) e (jz d (133 * n + 2)) (9 * jz s 33 + 5 + j) := by
  simp only [jvComeE]
  rw [jaPt_ne (by omega), jaPt_ne (by omega), jaPt_ne (by omega), jaPt_ne (by omega), jaPt_ne (by omega)]
theorem jWi_old {k m : Nat} {d e e' : jvA} {id : Nat} (hw : jWi k m d e id) (hd : ∀ n, n < m → jWn k d n) (h : ∀ j, j < 9 → e' (9 * id + j) = e (9 * id + j)) : jWi k m d e' id := by
  obtain ⟨h1, h2, h3, h4, h5⟩ := hw
  have hz : jz e' (9 * id) = jz e (9 * id) := jz_c (h 0 (by decide))
  have hdn := hd _ h1.2
  have ha := hdn.2.2.2.1.2
  have h' : ∀ j, j < 4 → e' (9 * id + 5 + j) = e (9 * id + 5 + j) := fun j hj => by
    have := h (5 + j) (by omega)
    rwa [show 9 * id + (5 + j) = 9 * id + 5 + j by omega] at this
  unfold jWi
  rw [hz, h 1 (by decide), h 3 (by decide), h 4 (by decide), show e' (9 * id) = e (9 * id) from h 0 (by decide)]
  refine ⟨h1, h2, fun j hj => ?_, ?_, h5⟩
  · rw [h' j (by omega), jz_c (h' j (by omega))]
    exact h3 j hj
  · rw [h4, jvWs_c hdn.2.2.2.2.2 ha h' _ (Nat.le_refl _)]
theorem jvCome_i {s d e : jvA} {n : Nat} (hw : jWw s) (hn : n < jz s 32) (h24 : jz s 32 ≤ 24) (hdn : jWn (jz s 1) d n) : jWi (jz s 1) (jz s 32) d (jvComeE s d e n) (jz s 33) := by
  obtain ⟨hk1, ⟨hd0, hd0'⟩, ⟨hd1, hd1'⟩, ⟨hd2, hd2'⟩, hda, hds⟩ := hdn
  have e0 : jvComeE s d e n (9 * jz s 33) = nI n := by
    simp only [jvComeE]
    rw [jaPt_ne (by omega), jaPt_ne (by omega), jaPt_ne (by omega), jaPt_ne (by omega), jaPt_eq]
  have e1 : jvComeE s d e n (9 * jz s 33 + 1) = d (133 * n) := by
    simp only [jvComeE]
    rw [jaPt_ne (by omega), jaPt_ne (by omega), jaPt_ne (by omega), jaPt_eq]
  have e3 : jvComeE s d e n (9 * jz s 33 + 3) = jvWs d (jvFore s d (133 * n) (9 * jz s 33 + 5) e (jz d (133 * n + 2))) (jz s 33) (133 * n) (jz d (133 * n + 1)) := by
    simp only [jvComeE]
    rw [jaPt_ne (by omega), jaPt_eq]
  have e4 : jvComeE s d e n (9 * jz s 33 + 4) = nI 0 ∨ jvComeE s d e n (9 * jz s 33 + 4) = nI 1 := by
    simp only [jvComeE]
    rw [jaPt_eq]
    unfold jaIf1
    split
    · exact Or.inr rfl
    · exact Or.inl rfl
  have z0 : jz (jvComeE s d e n) (9 * jz s 33) = n := by rw [jz, e0, jaIx_nI (by omega)]
  unfold jWi
  rw [z0, e1, e3]
  refine ⟨⟨e0, hn⟩, rfl, fun j hj => ?_, ?_, e4⟩
  · obtain ⟨q, hq, hq2⟩ := jvMod_n (v := s (145 + jz d (133 * n + 3 + j))) hk1 hw.2.1.2
    have e5 : jvComeE s d e n (9 * jz s 33 + 5 + j) = nI q := by
      rw [jvComeE_fs, jvFore_at _ hj, hw.2.1.1]
      exact hq2
    have z5 : jz (jvComeE s d e n) (9 * jz s 33 + 5 + j) = q := (congrArg jaIx e5).trans (jaIx_nI (by have := hw.2.1.2; omega))
    rw [z5]
    exact ⟨e5, hq⟩
  · exact (jvWs_c hds hd2' (fun j _ => jvComeE_fs) _ (Nat.le_refl _)).symm
theorem jvCome_wf {s d e : jvA} {n : Nat} (hw : jWw s) (hd : jWd s d) (he : jWe s d e) (hn : n < jz s 32)
    (h32 : s 32 = nI (jz s 32) ∧ jz s 32 ≤ 24) (h33 : s 33 = nI (jz s 33)) (h34 : s 34 = nI (jz s 34) ∧ jz s 34 ≤ 40) (h35 : s 35 = nI (jz s 35)) (h4 : jz s 33 = jz s 34 + jz s 35)
    (hc : jz s 33 + 1 = jz s 32 + jaCnt (fun i => s (415 + i) = nI 1) (jz s 34))
    (h6 : ∀ i, i < jz s 34 → s (41 + i) = nI (jz s (41 + i)) ∧ jz s (41 + i) < jz s 33) (h7 : ∀ i, i < jz s 35 → s (81 + i) = nI (jz s (81 + i)) ∧ jz s (81 + i) < jz s 33)
    (h8 : ∀ i j, i < j → j < jz s 35 → jz s (81 + i) < jz s (81 + j)) (h9 : ∀ i j, i < j → j < jz s 34 → jz s (41 + i) ≠ jz s (41 + j)) (h10 : ∀ i j, i < jz s 34 → j < jz s 35 → jz s (41 + i) ≠ jz s (81 + j))
    (h11 : ∀ i, i < 40 → (s (415 + i) = nI 0 ∨ s (415 + i) = nI 1) ∧ (jz s 34 ≤ i → s (415 + i) = nI 0)) : jX (jvComeS s) d (jvComeE s d e n) ∧ jz s 33 < 64 := by
  have hcl := jaCnt_le (p := fun i => s (415 + i) = nI 1) (jz s 34)
  have h64 : jz s 33 < 64 := by omega
  have ne : ∀ j, j ≠ 33 → j ≠ 35 → j ≠ 81 + jz s 35 → jvComeS s j = s j := fun j a b c => jvComeS_ne a b c
  have nz : ∀ j, j ≠ 33 → j ≠ 35 → j ≠ 81 + jz s 35 → jz (jvComeS s) j = jz s j := fun j a b c => jz_c (jvComeS_ne a b c)
  have z33 : jz (jvComeS s) 33 = jz s 33 + 1 := by rw [jz, jvComeS_33, h33, nI_add, jaIx_nI (by omega)]
  have z35 : jz (jvComeS s) 35 = jz s 35 + 1 := by rw [jz, jvComeS_35, h35, nI_add, jaIx_nI (by omega)]
  have zn : jz (jvComeS s) (81 + jz s 35) = jz s 33 := jz_c (s := s) (j := 33) (s' := fun _ => jvComeS s (81 + jz s 35)) jvComeS_new
  refine ⟨⟨jWw_c (fun j hj => ne j (by omega) (by omega) (by omega)) hw, jWd_c (ne 1 (by omega) (by omega) (by omega)) (ne 32 (by omega) (by omega) (by omega)) hd, fun id hid => ?_, ?_⟩, h64⟩
  · rw [nz 1 (by omega) (by omega) (by omega), nz 32 (by omega) (by omega) (by omega)]
    rw [z33] at hid
    by_cases e1 : id = jz s 33
    · rw [e1]
      exact jvCome_i hw hn h32.2 (hd n hn)
    · exact jWi_old (he id (by omega)) hd (fun j hj => jvComeE_old (by omega))
  · unfold jWo
    rw [z33, z35, nz 32 (by omega) (by omega) (by omega), nz 34 (by omega) (by omega) (by omega), ne 32 (by omega) (by omega) (by omega), ne 34 (by omega) (by omega) (by omega), jvComeS_33, jvComeS_35]
    refine ⟨h32, by rw [h33, nI_add], h34, by rw [h35, nI_add], by omega, ?_, fun i hi => ?_, fun i hi => ?_, fun i j hi hj => ?_, fun i j hi hj => ?_, fun i j hi hj => ?_, fun i hi => ?_⟩
    · rw [hc]
      exact congrArg _ (jaCnt_c _ fun i hi => by rw [ne (415 + i) (by omega) (by omega) (by omega)])
    · rw [ne (41 + i) (by omega) (by omega) (by omega), nz (41 + i) (by omega) (by omega) (by omega)]
      exact ⟨(h6 i hi).1, by have := (h6 i hi).2; omega⟩
    · by_cases e1 : i = jz s 35
      · rw [e1, zn, jvComeS_new]
        exact ⟨h33, by omega⟩
      · rw [ne (81 + i) (by omega) (by omega) (by omega), nz (81 + i) (by omega) (by omega) (by omega)]
        exact ⟨(h7 i (by omega)).1, by have := (h7 i (by omega)).2; omega⟩
    · rw [nz (81 + i) (by omega) (by omega) (by omega)]
      by_cases e1 : j = jz s 35
      · rw [e1, zn]
        exact (h7 i (by omega)).2
      · rw [nz (81 + j) (by omega) (by omega) (by omega)]
        exact h8 i j hi (by omega)
    · rw [nz (41 + i) (by omega) (by omega) (by omega), nz (41 + j) (by omega) (by omega) (by omega)]
      exact h9 i j hi hj
    · rw [nz (41 + i) (by omega) (by omega) (by omega)]
      by_cases e1 : j = jz s 35
      · rw [e1, zn]
        have := (h6 i hi).2
        omega
      · rw [nz (81 + j) (by omega) (by omega) (by omega)]
        exact h10 i j hi (by omega)
    · rw [ne (415 + i) (by omega) (by omega) (by omega)]
      exact h11 i hi
/-! what is put -/
theorem jvPut_s {s v : jvA} {c i n : Nat} {w : Int32} : jvPut c i v w s (n + 1) = jaIf1 (jaBt w n) (jaPt (jvTw (jvPut c i v w s n) c i n) (145 + 10 * c + n) (v n)) (jvPut c i v w s n) := rfl
theorem jvTw_ne {s : jvA} {c i k j : Nat} (h1 : j ≠ 39) (h2 : j ≠ 455 + k) : jvTw s c i k j = s j := by
  unfold jvTw jaIf1
  split
  · rw [jaPt_ne h2, jaPt_ne h1]
  · rfl
theorem jvPut_ne {s v : jvA} {c i j : Nat} {w : Int32} (h39 : j ≠ 39) : ∀ n, (j < 145 + 10 * c ∨ 145 + 10 * c + n ≤ j) → (j < 455 ∨ 455 + n ≤ j) → jvPut c i v w s n j = s j
  | 0, _, _ => rfl
  | n + 1, h1, h2 => by
    rw [jvPut_s]
    by_cases q : jaBt w n
    · rw [jaIf1_t q, jaPt_ne (by omega), jvTw_ne h39 (by omega), jvPut_ne h39 n (by omega) (by omega)]
    · rw [jaIf1_f q, jvPut_ne h39 n (by omega) (by omega)]
theorem jvPut_39 {s v : jvA} {c i : Nat} {w : Int32} (h : s 36 = nI 0) (hc : c < 3) : ∀ n, n ≤ 10 → jvPut c i v w s n 39 = s 39
  | 0, _ => rfl
  | n + 1, hn => by
    have h36 : jvPut c i v w s n 36 = nI 0 := by rw [jvPut_ne (by decide) n (by omega) (by omega), h]
    rw [jvPut_s]
    by_cases q : jaBt w n
    · rw [jaIf1_t q, jaPt_ne (by omega)]
      unfold jvTw
      rw [jaIf1_f (fun x => by rw [h36] at x; exact absurd x.2.1 (by decide)), jvPut_39 h hc n (by omega)]
    · rw [jaIf1_f q, jvPut_39 h hc n (by omega)]
/-! going -/
def jvE1 (s : jvA) (c i : Nat) (how : Int32) : jvA := jaPt (jaPt s (175 + 40 * c + i) how) (295 + 40 * c + i) (nI 0)
theorem jvEx_eq {s d e v : jvA} {c i : Nat} {how w : Int32} (hg : jvGo (fun k => s (145 + 10 * c + k)) d e (s 1) (jvId s i) = (how, v, w)) :
    jvEx s d e c i = jaIf1 (how = nI 3 ∧ c = 0 ∧ ¬ s (415 + i) = nI 1) (jvComeS (jaPt (jaIf1 (how = nI 2) (jvPut c i v w (jvE1 s c i how) (jz s 1)) (jvE1 s c i how)) (415 + i) (nI 1)), jvComeE (jaPt (jaIf1 (how = nI 2) (jvPut c i v w (jvE1 s c i how) (jz s 1)) (jvE1 s c i how)) (415 + i) (nI 1)) d e (jz e (9 * jvId s i))) (jaIf1 (how = nI 2) (jvPut c i v w (jvE1 s c i how) (jz s 1)) (jvE1 s c i how), e) := by
  simp only [jvEx]
  rw [hg]
  rfl
theorem jvGo_how {row d e : jvA} {k : Int32} {id : Nat} : (jvGo row d e k id).1 = nI 2 ∨ (jvGo row d e k id).1 = nI 3 ∨ (jvGo row d e k id).1 = nI 4 := by
  simp only [jvGo]
  unfold jaIf1
  split
  · exact Or.inr (Or.inl rfl)
  · split
    · exact Or.inl rfl
    · exact Or.inr (Or.inr rfl)
/-- the three ways -/
theorem jvEx_cases {s d e : jvA} {c i : Nat} {P : jvA × jvA → Prop}
    (h2 : ∀ v w, jvGo (fun k => s (145 + 10 * c + k)) d e (s 1) (jvId s i) = (nI 2, v, w) → P (jvPut c i v w (jvE1 s c i (nI 2)) (jz s 1), e))
    (h4 : ∀ how v w, jvGo (fun k => s (145 + 10 * c + k)) d e (s 1) (jvId s i) = (how, v, w) → (how = nI 3 ∨ how = nI 4) → ¬ (how = nI 3 ∧ c = 0 ∧ ¬ s (415 + i) = nI 1) → P (jvE1 s c i how, e))
    (h3 : ∀ v w, jvGo (fun k => s (145 + 10 * c + k)) d e (s 1) (jvId s i) = (nI 3, v, w) → c = 0 → ¬ s (415 + i) = nI 1 → P (jvComeS (jaPt (jvE1 s c i (nI 3)) (415 + i) (nI 1)), jvComeE (jaPt (jvE1 s c i (nI 3)) (415 + i) (nI 1)) d e (jz e (9 * jvId s i)))) : P (jvEx s d e c i) := by
  have hh := jvGo_how (row := fun k => s (145 + 10 * c + k)) (d := d) (e := e) (k := s 1) (id := jvId s i)
  generalize hg : jvGo (fun k => s (145 + 10 * c + k)) d e (s 1) (jvId s i) = g at *
  obtain ⟨how, v, w⟩ := g
  rw [jvEx_eq hg]
  rcases hh with hh | hh | hh
  · have hh : how = nI 2 := hh
    subst hh
    rw [jaIf1_f (fun x => absurd x.1 (by decide)), jaIf1_t rfl]
    exact h2 v w rfl
  · have hh : how = nI 3 := hh
    subst hh
    by_cases q : c = 0 ∧ ¬ s (415 + i) = nI 1
    · rw [jaIf1_t ⟨rfl, q⟩, jaIf1_f (by decide)]
      exact h3 v w rfl q.1 q.2
    · rw [jaIf1_f (fun x => q x.2), jaIf1_f (by decide)]
      exact h4 _ v w rfl (Or.inl rfl) (fun x => q x.2)
  · have hh : how = nI 4 := hh
    subst hh
    rw [jaIf1_f (fun x => absurd x.1 (by decide)), jaIf1_f (by decide)]
    exact h4 _ v w rfl (Or.inr rfl) (fun x => absurd x.1 (by decide))
theorem jvE1_ne {s : jvA} {c i j : Nat} {how : Int32} (h1 : j ≠ 175 + 40 * c + i) (h2 : j ≠ 295 + 40 * c + i) : jvE1 s c i how j = s j := by
  unfold jvE1
  rw [jaPt_ne h2, jaPt_ne h1]
/-- the keys that an order's or a world's row stands under -/
theorem jvEx_keep {s d e : jvA} {c i j : Nat} (hX : jX s d e) (hc : c < 3) (hi : i < 40) (hj : j < 33 ∨ j = 34 ∨ (36 ≤ j ∧ j ≤ 38) ∨ (40 ≤ j ∧ j < 81) ∨ 465 ≤ j) : (jvEx s d e c i).1 j = s j := by
  have h10 := hX.1.2.1.2
  have h64 := hX.2.2.2.came.2
  refine jvEx_cases (P := fun x => x.1 j = s j) (fun v w hg => ?_) (fun how v w hg h1 h2 => ?_) (fun v w hg h1 h2 => ?_)
  · show jvPut c i v w (jvE1 s c i (nI 2)) (jz s 1) j = s j
    rw [jvPut_ne (by omega) _ (by omega) (by omega), jvE1_ne (by omega) (by omega)]
  · show jvE1 s c i how j = s j
    rw [jvE1_ne (by omega) (by omega)]
  · show jvComeS (jaPt (jvE1 s c i (nI 3)) (415 + i) (nI 1)) j = s j
    have e35 : jz (jaPt (jvE1 s c i (nI 3)) (415 + i) (nI 1)) 35 = jz s 35 := jz_c (by rw [jaPt_ne (by omega), jvE1_ne (by omega) (by omega)])
    rw [jvComeS_ne (by omega) (by omega) (by rw [e35]; omega), jaPt_ne (by omega), jvE1_ne (by omega) (by omega)]
theorem jvEx_how {s d e : jvA} {c i c' i' : Nat} (hX : jX s d e) (hc : c < 3) (hi : i < 40) (hc' : c' < 3) (hi' : i' < 40) (hne : ¬ (c' = c ∧ i' = i)) : (jvEx s d e c i).1 (175 + 40 * c' + i') = s (175 + 40 * c' + i') ∧ (jvEx s d e c i).1 (295 + 40 * c' + i') = s (295 + 40 * c' + i') := by
  have h10 := hX.1.2.1.2
  have h64 := hX.2.2.2.came.2
  refine jvEx_cases (P := fun x => x.1 (175 + 40 * c' + i') = s (175 + 40 * c' + i') ∧ x.1 (295 + 40 * c' + i') = s (295 + 40 * c' + i')) (fun v w hg => ?_) (fun how v w hg h1 h2 => ?_) (fun v w hg h1 h2 => ?_)
  · show jvPut c i v w (jvE1 s c i (nI 2)) (jz s 1) (175 + 40 * c' + i') = _ ∧ jvPut c i v w (jvE1 s c i (nI 2)) (jz s 1) (295 + 40 * c' + i') = _
    rw [jvPut_ne (by omega) _ (by omega) (by omega), jvPut_ne (by omega) _ (by omega) (by omega), jvE1_ne (by omega) (by omega), jvE1_ne (by omega) (by omega)]
    exact ⟨rfl, rfl⟩
  · show jvE1 s c i how _ = _ ∧ jvE1 s c i how _ = _
    rw [jvE1_ne (by omega) (by omega), jvE1_ne (by omega) (by omega)]
    exact ⟨rfl, rfl⟩
  · show jvComeS (jaPt (jvE1 s c i (nI 3)) (415 + i) (nI 1)) _ = _ ∧ jvComeS (jaPt (jvE1 s c i (nI 3)) (415 + i) (nI 1)) _ = _
    have e35 : jz (jaPt (jvE1 s c i (nI 3)) (415 + i) (nI 1)) 35 = jz s 35 := jz_c (by rw [jaPt_ne (by omega), jvE1_ne (by omega) (by omega)])
    rw [jvComeS_ne (by omega) (by omega) (by rw [e35]; omega), jaPt_ne (by omega), jvE1_ne (by omega) (by omega), jvComeS_ne (by omega) (by omega) (by rw [e35]; omega), jaPt_ne (by omega), jvE1_ne (by omega) (by omega)]
    exact ⟨rfl, rfl⟩
theorem jvEx_at {s d e : jvA} {c i : Nat} (hX : jX s d e) (hc : c < 3) (hi : i < 40) : (jvEx s d e c i).1 (175 + 40 * c + i) = (jvGo (fun k => s (145 + 10 * c + k)) d e (s 1) (jvId s i)).1 := by
  have h10 := hX.1.2.1.2
  have h64 := hX.2.2.2.came.2
  refine jvEx_cases (P := fun x => x.1 (175 + 40 * c + i) = (jvGo (fun k => s (145 + 10 * c + k)) d e (s 1) (jvId s i)).1) (fun v w hg => ?_) (fun how v w hg h1 h2 => ?_) (fun v w hg h1 h2 => ?_)
  · show jvPut c i v w (jvE1 s c i (nI 2)) (jz s 1) (175 + 40 * c + i) = _
    rw [jvPut_ne (by omega) _ (by omega) (by omega), hg, jvE1, jaPt_ne (by omega), jaPt_eq]
  · show jvE1 s c i how (175 + 40 * c + i) = _
    rw [hg, jvE1, jaPt_ne (by omega), jaPt_eq]
  · show jvComeS (jaPt (jvE1 s c i (nI 3)) (415 + i) (nI 1)) _ = _
    have e35 : jz (jaPt (jvE1 s c i (nI 3)) (415 + i) (nI 1)) 35 = jz s 35 := jz_c (by rw [jaPt_ne (by omega), jvE1_ne (by omega) (by omega)])
    rw [jvComeS_ne (by omega) (by omega) (by rw [e35]; omega), jaPt_ne (by omega), hg, jvE1, jaPt_ne (by omega), jaPt_eq]
/-- what the coming of an entry anew asks for -/
theorem jvEx_again {s d e : jvA} {i : Nat} (hX : jX s d e) (hi : i < jz s 34) (h2 : ¬ s (415 + i) = nI 1) (how : Int32) : jX (jvComeS (jaPt (jvE1 s 0 i how) (415 + i) (nI 1))) d (jvComeE (jaPt (jvE1 s 0 i how) (415 + i) (nI 1)) d e (jz e (9 * jvId s i))) ∧ jz s 33 < 64 := by
  obtain ⟨hw, hd, he, ho⟩ := hX
  have hO := ho.ord.2
  have hC := ho.came.2
  obtain ⟨h0, h1, h2', h3, h4, h5, h6, h7, h8, h9, h10, h11⟩ := ho
  have ne : ∀ j, j < 175 ∨ 455 ≤ j ∨ (415 ≤ j ∧ j ≠ 415 + i) → jaPt (jvE1 s 0 i how) (415 + i) (nI 1) j = s j := fun j hj => by
    rw [jaPt_ne (by omega), jvE1_ne (by omega) (by omega)]
  have nz : ∀ j, j < 175 ∨ 455 ≤ j ∨ (415 ≤ j ∧ j ≠ 415 + i) → jz (jaPt (jvE1 s 0 i how) (415 + i) (nI 1)) j = jz s j := fun j hj => jz_c (ne j hj)
  have ni : jaPt (jvE1 s 0 i how) (415 + i) (nI 1) (415 + i) = nI 1 := jaPt_eq
  generalize jaPt (jvE1 s 0 i how) (415 + i) (nI 1) = p at *
  have key := jvCome_wf (s := p) (d := d) (e := e) (n := jz e (9 * jvId s i)) (jWw_c (fun j hj => ne j (by omega)) hw) (jWd_c (ne 1 (by omega)) (ne 32 (by omega)) hd) (jWe_c (ne 1 (by omega)) (ne 32 (by omega)) (ne 33 (by omega)) he)
  rw [nz 32 (by omega), nz 33 (by omega), nz 34 (by omega), nz 35 (by omega), ne 32 (by omega), ne 33 (by omega), ne 34 (by omega), ne 35 (by omega)] at key
  have q := key (he _ (h6 i hi).2).1.2 h0 h1 h2' h3 h4 ?_ (fun i hi => by rw [ne (41 + i) (by omega), nz (41 + i) (by omega)]; exact h6 i hi) (fun i hi => by rw [ne (81 + i) (by omega), nz (81 + i) (by omega)]; exact h7 i hi)
    (fun i j hi hj => by rw [nz (81 + i) (by omega), nz (81 + j) (by omega)]; exact h8 i j hi hj) (fun i j hi hj => by rw [nz (41 + i) (by omega), nz (41 + j) (by omega)]; exact h9 i j hi hj) (fun i j hi hj => by rw [nz (41 + i) (by omega), nz (81 + j) (by omega)]; exact h10 i j hi hj) (fun j hj => ?_)
  · exact q
  · rw [jaCnt_upd (p := fun i => s (415 + i) = nI 1) (i := i) h2 ni (fun j hj => by rw [ne (415 + j) (by omega)]) hi, h5]
    omega
  · by_cases e1 : j = i
    · rw [e1, ni]
      exact ⟨Or.inr rfl, fun q => absurd q (by omega)⟩
    · rw [ne (415 + j) (by omega)]
      exact h11 j hj
theorem jvEx_X {s d e : jvA} {c i : Nat} (hX : jX s d e) (hc : c < 3) (hi : i < jz s 34) : jX (jvEx s d e c i).1 d (jvEx s d e c i).2 := by
  have h10 := hX.1.2.1.2
  have hO := hX.2.2.2.ord.2
  refine jvEx_cases (P := fun x => jX x.1 d x.2) (fun v w hg => ?_) (fun how v w hg h1 h2 => ?_) (fun v w hg h1 h2 => ?_)
  · exact jX_c (fun j hj => by show jvPut c i v w (jvE1 s c i (nI 2)) (jz s 1) j = s j; rw [jvPut_ne (by omega) _ (by omega) (by omega), jvE1_ne (by omega) (by omega)]) hX
  · exact jX_c (fun j hj => by show jvE1 s c i how j = s j; rw [jvE1_ne (by omega) (by omega)]) hX
  · subst h1
    exact (jvEx_again hX hi h2 _).1
theorem jvEx_39 {s d e : jvA} {c i : Nat} (hX : jX s d e) (hc : c < 3) (hi : i < 40) (h : s 36 = nI 0) : (jvEx s d e c i).1 39 = s 39 := by
  have h10 := hX.1.2.1.2
  have h64 := hX.2.2.2.came.2
  refine jvEx_cases (P := fun x => x.1 39 = s 39) (fun v w hg => ?_) (fun how v w hg h1 h2 => ?_) (fun v w hg h1 h2 => ?_)
  · show jvPut c i v w (jvE1 s c i (nI 2)) (jz s 1) 39 = s 39
    rw [jvPut_39 (by rw [jvE1_ne (by omega) (by omega), h]) hc _ h10, jvE1_ne (by omega) (by omega)]
  · show jvE1 s c i how 39 = s 39
    rw [jvE1_ne (by omega) (by omega)]
  · show jvComeS (jaPt (jvE1 s c i (nI 3)) (415 + i) (nI 1)) 39 = s 39
    rw [jvComeS_ne (by omega) (by omega) (by omega), jaPt_ne (by omega), jvE1_ne (by omega) (by omega)]
/-- the entries' rows that were there stay -/
theorem jvEx_e {s d e : jvA} {c i j : Nat} (hj : j < 9 * jz s 33) (hc : c < 3) (hi : i < 40) : (jvEx s d e c i).2 j = e j := by
  refine jvEx_cases (P := fun x => x.2 j = e j) (fun v w hg => rfl) (fun how v w hg h1 h2 => rfl) (fun v w hg h1 h2 => ?_)
  refine jvComeE_old ?_
  have e33 : jz (jaPt (jvE1 s c i (nI 3)) (415 + i) (nI 1)) 33 = jz s 33 := jz_c (by rw [jaPt_ne (by omega), jvE1_ne (by omega) (by omega)])
  rw [e33]
  exact hj
def jWc1 (s : jvA) (c i : Nat) : Prop := (s (175 + 40 * c + i) = nI (jz s (175 + 40 * c + i)) ∧ jz s (175 + 40 * c + i) ≤ 4) ∧ (jz s 34 ≤ i → s (175 + 40 * c + i) = nI 0) ∧
  (s (175 + 40 * c + i) = nI 1 → s (295 + 40 * c + i) = nI (jz s (295 + 40 * c + i)) ∧ 1 ≤ jz s (295 + 40 * c + i) ∧ jz s (295 + 40 * c + i) ≤ 9)
theorem jWc1_c {s s' : jvA} {c i : Nat} (h1 : s' (175 + 40 * c + i) = s (175 + 40 * c + i)) (h2 : s' (295 + 40 * c + i) = s (295 + 40 * c + i)) (h3 : s' 34 = s 34) (h : jWc1 s c i) : jWc1 s' c i := by
  unfold jWc1
  rw [h1, h2, jz_c h1, jz_c h2, jz_c h3]
  exact h
theorem jWk_c {s s' : jvA} (h : ∀ j, j = 1 ∨ j = 34 ∨ (36 ≤ j ∧ j ≤ 38) ∨ j = 40 ∨ (485 ≤ j ∧ j < 525) → s' j = s j) (h39 : s 36 = nI 0 → s' 39 = s 39) (hO : jz s 34 ≤ 40) (hk : jWk s) : jWk s' := by
  obtain ⟨h1, h2, h3⟩ := hk
  unfold jWk
  have hz : ∀ j, j = 1 ∨ j = 34 ∨ (36 ≤ j ∧ j ≤ 38) ∨ j = 40 ∨ (485 ≤ j ∧ j < 525) → jz s' j = jz s j := fun j hj => jz_c (h j hj)
  rw [h 36 (by omega), h 37 (by omega), h 38 (by omega), h 40 (by omega), hz 37 (by omega), hz 34 (by omega), hz 38 (by omega), hz 1 (by omega), hz 40 (by omega)]
  refine ⟨?_, h2, fun i hi => ?_⟩
  · rcases h1 with h1 | h1
    · exact Or.inl ⟨h1.1, h1.2.1, h1.2.2.1, by rw [h39 h1.1]; exact h1.2.2.2⟩
    · exact Or.inr h1
  · have := h2.2
    rw [jz] 
    rw [h (485 + i) (by omega)]
    exact h3 i hi
theorem jvEx_W {s d e : jvA} {c i : Nat} (hX : jX s d e) (hc : c < 3) (hi : i < jz s 34) (hcs : ∀ c' i', c' < 3 → i' < 40 → ¬ (c' = c ∧ i' = i) → jWc1 s c' i') (hk : jWk s) (ht : s 31 = nI (jz s 31)) : jW (jvEx s d e c i).1 d (jvEx s d e c i).2 := by
  have hO := hX.2.2.2.ord.2
  obtain ⟨a1, a2, a3, a4⟩ := jvEx_X hX hc hi
  have k34 := jvEx_keep hX hc (show i < 40 by omega) (j := 34) (by omega)
  have k31 := jvEx_keep hX hc (show i < 40 by omega) (j := 31) (by omega)
  refine ⟨a1, a2, a3, a4, fun c' i' hc' hi' => ?_, jWk_c (fun j hj => jvEx_keep hX hc (by omega) (by omega)) (jvEx_39 hX hc (by omega)) hO hk, by rw [k31, jz_c k31]; exact ht⟩
  by_cases q : c' = c ∧ i' = i
  · rw [q.1, q.2]
    have hat := jvEx_at hX hc (show i < 40 by omega)
    have hh := jvGo_how (row := fun k => s (145 + 10 * c + k)) (d := d) (e := e) (k := s 1) (id := jvId s i)
    rw [← hat] at hh
    rw [jz_c k34]
    have key : ∀ x : Int32, x = nI 2 ∨ x = nI 3 ∨ x = nI 4 → (x = nI (jaIx x) ∧ jaIx x ≤ 4) ∧ ¬ x = nI 1 := by
      rintro x (rfl | rfl | rfl) <;> decide
    exact ⟨(key _ hh).1, fun q2 => absurd q2 (by omega), fun q2 => absurd q2 (key _ hh).2⟩
  · obtain ⟨b1, b2⟩ := jvEx_how hX hc (show i < 40 by omega) hc' hi' q
    exact jWc1_c b1 b2 k34 (hcs c' i' hc' hi' q)
end
