section
/-! wide -/
theorem jvWh_bt {s : jvA} (hw : jWw s) (x : Int32) {a : Nat} (ha : a < 32) : ∀ n, n ≤ jz s 1 → (jaBt (jvWh s x n) a ↔ ∃ k, k < n ∧ jaBt x k ∧ jz s (5 + k) = a)
  | 0, _ => ⟨fun h => absurd h (jaBt_0 ha), fun ⟨k, hk, _⟩ => absurd hk (by omega)⟩
  | n + 1, hn => by
    have ih := jvWh_bt hw x ha n (by omega)
    obtain ⟨h3, h4⟩ := hw.2.2.2.2.2.1 n (by omega)
    have h5 := hw.1.2
    have e : jvWh s x (n + 1) = jaIf1 (jaBt x n) (jvWh s x n ||| jaMk (s (5 + n))) (jvWh s x n ||| nI 0) := rfl
    by_cases q : jaBt x n
    · rw [e, jaIf1_t q, h3, jaBt_orm (by omega) ha, ih]
      constructor
      · rintro (⟨k, h1, h2⟩ | h)
        · exact ⟨k, by omega, h2⟩
        · exact ⟨n, by omega, q, h.symm⟩
      · rintro ⟨k, h1, h2, h6⟩
        by_cases e1 : k = n
        · exact Or.inr (by rw [← h6, e1])
        · exact Or.inl ⟨k, by omega, h2, h6⟩
    · rw [e, jaIf1_f q, jaOr0, ih]
      constructor
      · rintro ⟨k, h1, h2⟩
        exact ⟨k, by omega, h2⟩
      · rintro ⟨k, h1, h2, h6⟩
        by_cases e1 : k = n
        · rw [e1] at h2
          exact absurd h2 q
        · exact ⟨k, by omega, h2, h6⟩
theorem jvBits_2 : ∀ m : Fin 8, (1 < jvBits 32 (nI m.1) ↔ ∃ a b : Fin 3, a.1 < b.1 ∧ jaBt (nI m.1) a.1 ∧ jaBt (nI m.1) b.1) := by
  unfold jaBt
  decide
theorem jvWide_iff {s : jvA} (hw : jWw s) (x : Int32) : 1 < jvBits 32 (jvWh s x (jz s 1)) ↔ ∃ k l, k < jz s 1 ∧ l < jz s 1 ∧ jaBt x k ∧ jaBt x l ∧ ¬ jz s (5 + k) = jz s (5 + l) := by
  obtain ⟨m, hm, he⟩ := jvWh_8 hw x _ (Nat.le_refl _)
  have hb := fun a (ha : a < 32) => jvWh_bt hw x ha _ (Nat.le_refl _)
  have h3 := hw.1.2
  rw [he] at hb ⊢
  rw [jvBits_2 ⟨m, hm⟩]
  constructor
  · rintro ⟨a, b, h1, h2, h4⟩
    obtain ⟨k, k1, k2, k3⟩ := (hb a.1 (by omega)).mp h2
    obtain ⟨l, l1, l2, l3⟩ := (hb b.1 (by omega)).mp h4
    exact ⟨k, l, k1, l1, k2, l2, by omega⟩
  · rintro ⟨k, l, k1, l1, k2, l2, h⟩
    have a1 := (hw.2.2.2.2.2.1 k k1).2
    have a2 := (hw.2.2.2.2.2.1 l l1).2
    have b1 := (hb (jz s (5 + k)) (by omega)).mpr ⟨k, k1, k2, rfl⟩
    have b2 := (hb (jz s (5 + l)) (by omega)).mpr ⟨l, l1, l2, rfl⟩
    rcases Nat.lt_or_ge (jz s (5 + k)) (jz s (5 + l)) with q | q
    · exact ⟨⟨jz s (5 + k), by omega⟩, ⟨jz s (5 + l), by omega⟩, q, b1, b2⟩
    · exact ⟨⟨jz s (5 + l), by omega⟩, ⟨jz s (5 + k), by omega⟩, show jz s (5 + l) < jz s (5 + k) by omega, b2, b1⟩
abbrev jcWo (k : Nat) : jaV := .inr (.inr (30, k, 0))
theorem sp_Wo_isWide {D : Nat} (hD : 1 ≤ D) {kk : Int32 → jaT → Prop} {σ : jaT} {S : jaS} {s : jvA} {k : Nat} {x : Int32} (hR : jRw S s) (hw : jWw s) (h : kk (jaB (1 < jvBits 32 (jvWh s x (jz s 1)))) (jaU σ k S)) : jaDe D jy_Wo_isWide [jcWo k, .inl x] (jaU σ k S) (jaKi kk) := by
  obtain ⟨D, rfl, hD⟩ := jaSuc hD
  obtain ⟨⟨a0, a1, a2, a3, a4⟩, b, c⟩ := hR
  obtain ⟨hK, hK'⟩ := hw.2.1
  have h3 := hw.1.2
  have hsn : ∀ q, q < jz s 1 → s (5 + q) = nI (jz s (5 + q)) ∧ jz s (5 + q) < jz s 0 := hw.2.2.2.2.2.1
  rw [jaB_c (jvWide_iff hw x)] at h
  apply js_Wo_isWide
  refine jaFor (C := fun q => ∀ f : Int32, ((f = -1 ∧ ∀ j, j < q → ¬ jaBt x j) ∨ ∃ i, i < q ∧ jaBt x i ∧ f = s (5 + i) ∧ ∀ j, j < q → jaBt x j → jz s (5 + j) = jz s (5 + i)) → jc_Wo_isWide_1 D kk k x f (nI q) (jaU σ k S)) (N := jz s 1) ?_ (fun q hq ih => ?_) (-1) (Or.inl ⟨rfl, fun j hj => absurd hj (by omega)⟩)
  · intro f hf
    apply jb_Wo_isWide_1
    simp (disch := first | omega | decide) only [jaU_eq, jaU_U, nI_add, pk_mul, jaIx_nI, vp_inT, true_and, and_true, ↓jaO0, ↓jaO1, nI_z, nI_z2, nI_z3, nI_z4, nI_z5, nI_lt', nI_le', nI_eq', jaUI_at, jaPt_eq, jaPt_ne, jaUI_o, jaUI_2, jaUL_at, jaUL_o, jaUL_1, jaB_z, jaB_1, ↓jaB_01, Classical.not_not, and_self, true_or, or_true, nI_11, Nat.reduceEqDiff, Nat.reduceAdd, Nat.reduceMul, Nat.add_zero, Nat.zero_add, Nat.mul_zero, not_true_eq_false, not_false_eq_true, false_implies, true_implies, a1]
    rw [hK]
    simp (disch := first | omega | decide) only [jaU_eq, jaU_U, nI_add, pk_mul, jaIx_nI, vp_inT, true_and, and_true, ↓jaO0, ↓jaO1, nI_z, nI_z2, nI_z3, nI_z4, nI_z5, nI_lt', nI_le', nI_eq', jaUI_at, jaPt_eq, jaPt_ne, jaUI_o, jaUI_2, jaUL_at, jaUL_o, jaUL_1, jaB_z, jaB_1, ↓jaB_01, Classical.not_not, and_self, true_or, or_true, nI_11, Nat.reduceEqDiff, Nat.reduceAdd, Nat.reduceMul, Nat.add_zero, Nat.zero_add, Nat.mul_zero, not_true_eq_false, not_false_eq_true, false_implies, true_implies]
    refine ⟨fun _ => ?_, fun q => absurd (by omega) q⟩
    rw [jaB_f] at h
    · exact h
    · rintro ⟨k1, l1, h1, h2, h4, h5, h6⟩
      rcases hf with hf | ⟨i, i1, i2, i3, i4⟩
      · exact hf.2 k1 h1 h4
      · exact h6 ((i4 k1 h1 h4).trans (i4 l1 h2 h5).symm)
  · intro f hf
    have hsq := hsn q hq
    apply jb_Wo_isWide_1
    rw [jaBt_u (show q < 32 by omega)]
    simp (disch := first | omega | decide) only [jaU_eq, jaU_U, nI_add, pk_mul, jaIx_nI, vp_inT, true_and, and_true, ↓jaO0, ↓jaO1, nI_z, nI_z2, nI_z3, nI_z4, nI_z5, nI_lt', nI_le', nI_eq', jaUI_at, jaPt_eq, jaPt_ne, jaUI_o, jaUI_2, jaUL_at, jaUL_o, jaUL_1, jaB_z, jaB_1, ↓jaB_01, Classical.not_not, and_self, true_or, or_true, nI_11, Nat.reduceEqDiff, Nat.reduceAdd, Nat.reduceMul, Nat.add_zero, Nat.zero_add, Nat.mul_zero, not_true_eq_false, not_false_eq_true, false_implies, true_implies, a1, (b q hq).1]
    rw [hK]
    simp (disch := first | omega | decide) only [jaU_eq, jaU_U, nI_add, pk_mul, jaIx_nI, vp_inT, true_and, and_true, ↓jaO0, ↓jaO1, nI_z, nI_z2, nI_z3, nI_z4, nI_z5, nI_lt', nI_le', nI_eq', jaUI_at, jaPt_eq, jaPt_ne, jaUI_o, jaUI_2, jaUL_at, jaUL_o, jaUL_1, jaB_z, jaB_1, ↓jaB_01, Classical.not_not, and_self, true_or, or_true, nI_11, Nat.reduceEqDiff, Nat.reduceAdd, Nat.reduceMul, Nat.add_zero, Nat.zero_add, Nat.mul_zero, not_true_eq_false, not_false_eq_true, false_implies, true_implies]
    refine ⟨fun q => absurd q (by omega), fun _ => ?_⟩
    refine ⟨fun hb => ih _ ?_, fun hb => ⟨fun q1 => ih _ ?_, fun q1 => ⟨fun q2 => ih _ ?_, fun q2 => ?_⟩⟩⟩
    · rcases hf with hf | ⟨i, i1, i2, i3, i4⟩
      · exact Or.inl ⟨hf.1, fun j hj => if e : j = q then (by rw [e]; exact hb) else hf.2 j (by omega)⟩
      · exact Or.inr ⟨i, by omega, i2, i3, fun j hj hjb => if e : j = q then (by rw [e] at hjb; exact absurd hjb hb) else i4 j (by omega) hjb⟩
    · rcases hf with hf | ⟨i, i1, i2, i3, i4⟩
      · exact Or.inr ⟨q, by omega, hb, rfl, fun j hj hjb => if e : j = q then (by rw [e]) else absurd hjb (hf.2 j (by omega))⟩
      · rw [q1] at i3
        have := (hsn i (by omega)).1
        rw [← i3] at this
        exact absurd this.symm (by rw [nI_m1 (by have := (hsn i (by omega)).2; omega)]; exact fun x => x)
    · rcases hf with hf | ⟨i, i1, i2, i3, i4⟩
      · exact absurd hf.1 q1
      · exact Or.inr ⟨q, by omega, hb, rfl, fun j hj hjb => if e : j = q then (by rw [e]) else (i4 j (by omega) hjb).trans (congrArg jaIx (q2.trans i3)).symm⟩
    · rcases hf with hf | ⟨i, i1, i2, i3, i4⟩
      · exact absurd hf.1 q1
      · rw [jaB_t] at h
        · exact h
        · exact ⟨q, i, hq, by omega, hb, i2, fun e => q2 (by rw [i3, hsq.1, (hsn i (by omega)).1, e])⟩
/-! what comes, in the class -/
theorem jvRt_c {K a : Nat} {d e e' : jvA} {id t : Nat} {r : Int32} (ha : a ≤ 4) (h : ∀ j, j < 4 → e' (9 * id + 5 + j) = e (9 * id + 5 + j)) : ∀ n, (∀ x, x < n → jWu K a d (t + 5 + 4 * x)) → jvRt d e' id t r n = jvRt d e id t r n
  | 0, _ => by unfold jvRt; rfl
  | n + 1, hu => by
    have hun := hu n (by omega)
    show jaIf1 (d (t + 5 + 4 * n) = nI 1) (jvRt d e' id t r n ||| jaMk (jvKey d e' id (t + 6 + 4 * n))) (jvRt d e' id t r n) = jaIf1 (d (t + 5 + 4 * n) = nI 1) (jvRt d e id t r n ||| jaMk (jvKey d e id (t + 6 + 4 * n))) (jvRt d e id t r n)
    rw [jvRt_c ha h n (fun x hx => hu x (by omega))]
    by_cases q : d (t + 5 + 4 * n) = nI 1
    · rw [jaIf1_t q, jaIf1_t q]
      rcases hun.1 with z | z
      · rw [q] at z
        exact absurd z.1 (by decide)
      · rw [show t + 6 + 4 * n = t + 5 + 4 * n + 1 by omega, jvKey_c z.2 ha h]
    · rw [jaIf1_f q, jaIf1_f q]
theorem jvRs_c {K a : Nat} {d e e' : jvA} {id b N : Nat} (hds : ∀ i, i < N → jWt K a d (b + 7 + 21 * i)) (ha : a ≤ 4) (h : ∀ j, j < 4 → e' (9 * id + 5 + j) = e (9 * id + 5 + j)) : ∀ n, n ≤ N → jvRs d e' id b n = jvRs d e id b n
  | 0, _ => by unfold jvRs; rfl
  | n + 1, hn => by
    have ht := hds n (by omega)
    show jvRt d e' id (b + 7 + 21 * n) (jaIf1 (d (b + 7 + 21 * n) = 0) (jvRs d e' id b n) (jvRs d e' id b n ||| jaMk (jvKey d e' id (b + 7 + 21 * n + 1)))) (jz d (b + 7 + 21 * n + 4)) = jvRt d e id (b + 7 + 21 * n) (jaIf1 (d (b + 7 + 21 * n) = 0) (jvRs d e id b n) (jvRs d e id b n ||| jaMk (jvKey d e id (b + 7 + 21 * n + 1)))) (jz d (b + 7 + 21 * n + 4))
    rw [jvRs_c hds ha h n (by omega), jvKey_c ht.2.1 ha h, jvRt_c ha h _ ht.2.2.2.2]
theorem jaOrn (r w : Int32) : (r &&& (w ^^^ (-1 : Int32))) ||| w = r ||| w := by
  refine jaBt_ext fun k hk => ?_
  rw [jaBt_or hk, jaBt_or hk, jaBt_and hk, jaBt_not hk]
  constructor
  · rintro (h | h)
    · exact Or.inl h.1
    · exact Or.inr h
  · rintro (h | h)
    · by_cases q : jaBt w k
      · exact Or.inr q
      · exact Or.inl ⟨h, q⟩
    · exact Or.inr h
set_option maxHeartbeats 4000000 in
theorem sp_St_arriveEntry {D : Nat} (hD : 3 ≤ D) {kk : jaT → Prop} {σ : jaT} {S : jaS} {k n : Nat} {s d e : jvA} (hR : jR S (s, d, e)) (hw : jWw s) (hd : jWd s d) (he : jWe s d e) (hn : n < jz s 32) (h24 : jz s 32 ≤ 24) (h33 : s 33 = nI (jz s 33)) (h64 : jz s 33 < 64) (hO : jz s 34 ≤ 40) (h35 : s 35 = nI (jz s 35)) (hC : jz s 35 < 64)
    (h6 : ∀ i, i < jz s 34 → jz s (41 + i) < jz s 33) (h7 : ∀ i, i < jz s 35 → jz s (81 + i) < jz s 33)
    (h : ∀ S', jR S' (jvComeS s, d, jvComeE s d e n) → jcE S S' → kk (jaU σ k S')) : jaDe D jy_St_arriveEntry [jcSt k, .inl (nI n)] (jaU σ k S) (jaKv kk) := by
  obtain ⟨D, rfl, hD⟩ := jaSuc hD
  have hRt := hR.s.2 n hn
  have hdn := hd n hn
  have hdn' := hdn
  obtain ⟨hk1, hd0, ⟨hd1, hd1'⟩, ⟨hd2, hd2'⟩, hda, hds⟩ := hdn'
  obtain ⟨hK, hK'⟩ := hw.2.1
  obtain ⟨hcp, hcp1, hcp3⟩ := hw.2.2.1
  have hP := hR.o.1
  have hw1 := hR.w.1.2.1
  have hnew := jvCome_i (e := e) hw hn h24 hdn
  have e0 : jvComeE s d e n (9 * jz s 33) = nI n := by
    simp only [jvComeE]
    rw [jaPt_ne (by omega), jaPt_ne (by omega), jaPt_ne (by omega), jaPt_ne (by omega), jaPt_eq]
  have z0 : jz (jvComeE s d e n) (9 * jz s 33) = n := (congrArg jaIx e0).trans (jaIx_nI (by omega))
  obtain ⟨n1, n2, n3, n4, n5⟩ := hnew
  rw [z0] at n1 n2 n3 n4
  have e2 : jvComeE s d e n (9 * jz s 33 + 2) = jvRs d (jvComeE s d e n) (jz s 33) (133 * n) (jz d (133 * n + 1)) &&& (jvWs d (jvComeE s d e n) (jz s 33) (133 * n) (jz d (133 * n + 1)) ^^^ (-1 : Int32)) := by
    rw [jvRs_c hds hd2' (fun j _ => jvComeE_fs) _ (Nat.le_refl _), jvWs_c hds hd2' (fun j _ => jvComeE_fs) _ (Nat.le_refl _)]
    simp only [jvComeE]
    rw [jaPt_ne (by omega), jaPt_ne (by omega), jaPt_eq]
  have e4 : jvComeE s d e n (9 * jz s 33 + 4) = jaB (1 < jvBits 32 (jvWh s (jvRs d (jvComeE s d e n) (jz s 33) (133 * n) (jz d (133 * n + 1)) ||| jvWs d (jvComeE s d e n) (jz s 33) (133 * n) (jz d (133 * n + 1))) (jz s 1))) := by
    rw [jvRs_c hds hd2' (fun j _ => jvComeE_fs) _ (Nat.le_refl _), jvWs_c hds hd2' (fun j _ => jvComeE_fs) _ (Nat.le_refl _)]
    simp only [jvComeE]
    rw [jaPt_eq]
    rfl
  have ef : ∀ j, j < jz d (133 * n + 2) → jvComeE s d e n (9 * jz s 33 + 5 + j) = jvMod (s (145 + jz d (133 * n + 3 + j))) (nI (jz s 1)) := fun j hj => by
    rw [jvComeE_fs, jvFore_at _ hj, ← hK]
  have eold : ∀ j, j < 9 * jz s 33 → jvComeE s d e n j = e j := fun j hj => jvComeE_old hj
  generalize jvComeE s d e n = e' at *
  have hP : S.1 60 0 0 = nI (jz s 33) := hP.trans h33
  have hw1 : S.1 30 0 1 = nI (jz s 1) := hw1.trans hK
  apply js_St_arriveEntry
  simp (disch := first | omega | decide) only [jaU_eq, jaU_U, nI_add, pk_mul, jaIx_nI, vp_inT, true_and, and_true, ↓jaO0, ↓jaO1, nI_z, nI_z2, nI_z3, nI_z4, nI_z5, nI_lt', nI_le', nI_eq', jaUI_at, jaPt_eq, jaPt_ne, jaUI_o, jaUI_2, jaUL_at, jaUL_o, jaUL_1, jaB_z, jaB_1, ↓jaB_01, Classical.not_not, and_self, true_or, or_true, nI_11, Nat.reduceEqDiff, Nat.reduceAdd, Nat.reduceMul, Nat.add_zero, Nat.zero_add, Nat.mul_zero, not_true_eq_false, not_false_eq_true, false_implies, true_implies, hP]
  refine ⟨fun _ => ?_, fun q => absurd h64 q⟩
  refine jaFor (C := fun j => ∀ S', jcF [67] S S' → (∀ q, q < 4 * jz s 33 → S'.1 67 0 q = S.1 67 0 q) → (∀ i, i < j → S'.1 67 0 (4 * jz s 33 + i) = e' (9 * jz s 33 + 5 + i)) → jc_St_arriveEntry_2 D kk k (nI n) (nI (jz s 33)) (nI (jz s 33 * 4)) (nI j) (jaU σ k S')) (N := jz d (133 * n + 2)) ?_ (fun j hj ih => ?_) S jcF.rfl (fun _ _ => rfl) (fun i hi => absurd hi (by omega))
  · intro S1 f1 g1 g2
    have hRt1 := jRt_S (S' := S1) (d := d) (n := n) (fun o h1 h2 => f1.s o (by simp; omega)) hRt
    apply jb_St_arriveEntry_2
    simp (disch := first | omega | decide) only [jaU_eq, jaU_U, nI_add, pk_mul, jaIx_nI, vp_inT, true_and, and_true, ↓jaO0, ↓jaO1, nI_z, nI_z2, nI_z3, nI_z4, nI_z5, nI_lt', nI_le', nI_eq', jaUI_at, jaPt_eq, jaPt_ne, jaUI_o, jaUI_2, jaUL_at, jaUL_o, jaUL_1, jaB_z, jaB_1, ↓jaB_01, Classical.not_not, and_self, true_or, or_true, nI_11, Nat.reduceEqDiff, Nat.reduceAdd, Nat.reduceMul, Nat.add_zero, Nat.zero_add, Nat.mul_zero, not_true_eq_false, not_false_eq_true, false_implies, true_implies, hRt1.2.2.1]
    rw [hd2]
    simp (disch := first | omega | decide) only [jaU_eq, jaU_U, nI_add, pk_mul, jaIx_nI, vp_inT, true_and, and_true, ↓jaO0, ↓jaO1, nI_z, nI_z2, nI_z3, nI_z4, nI_z5, nI_lt', nI_le', nI_eq', jaUI_at, jaPt_eq, jaPt_ne, jaUI_o, jaUI_2, jaUL_at, jaUL_o, jaUL_1, jaB_z, jaB_1, ↓jaB_01, Classical.not_not, and_self, true_or, or_true, nI_11, Nat.reduceEqDiff, Nat.reduceAdd, Nat.reduceMul, Nat.add_zero, Nat.zero_add, Nat.mul_zero, not_true_eq_false, not_false_eq_true, false_implies, true_implies]
    refine ⟨fun _ => ?_, fun q => absurd (by omega) q⟩
    rw [show jz s 33 * 4 = 4 * jz s 33 by omega]
    refine sp_Sc_writesOf (d := d) (e := e') (by omega) hRt1 (by omega) hdn hK' h64 g2 n3 ?_
    refine sp_Sc_readsOf (d := d) (e := e') (by omega) hRt1 (by omega) hdn hK' h64 g2 n3 ?_
    generalize hr : jvRs d e' (jz s 33) (133 * n) (jz d (133 * n + 1)) = r at *
    generalize hww : jvWs d e' (jz s 33) (133 * n) (jz d (133 * n + 1)) = w at *
    simp (disch := first | omega | decide) only [jaU_eq, jaU_U, nI_add, pk_mul, jaIx_nI, vp_inT, true_and, and_true, ↓jaO0, ↓jaO1, nI_z, nI_z2, nI_z3, nI_z4, nI_z5, nI_lt', nI_le', nI_eq', jaUI_at, jaPt_eq, jaPt_ne, jaUI_o, jaUI_2, jaUL_at, jaUL_o, jaUL_1, jaB_z, jaB_1, ↓jaB_01, Classical.not_not, and_self, true_or, or_true, nI_11, Nat.reduceEqDiff, Nat.reduceAdd, Nat.reduceMul, Nat.add_zero, Nat.zero_add, Nat.mul_zero, not_true_eq_false, not_false_eq_true, false_implies, true_implies, jaOrn]
    refine sp_Wo_isWide (s := s) (by omega) ?_ hw ?_
    · exact jRw_S (fun o h1 h2 => by
        rw [jaUI_o (by omega), jaUI_o (by omega), jaUI_o (by omega)]
        exact f1.s o (by simp; omega)) hR.w
    · rw [← e4]
      have o5 : (e' (9 * jz s 33 + 4) = 0 ∨ e' (9 * jz s 33 + 4) = 1) := by
        rcases n5 with q | q
        · rw [q]; exact Or.inl rfl
        · rw [q]; exact Or.inr rfl
      simp (disch := first | omega | decide) only [jaU_eq, jaU_U, nI_add, pk_mul, jaIx_nI, vp_inT, true_and, and_true, ↓jaO0, ↓jaO1, nI_z, nI_z2, nI_z3, nI_z4, nI_z5, nI_lt', nI_le', nI_eq', jaUI_at, jaPt_eq, jaPt_ne, jaUI_o, jaUI_2, jaUL_at, jaUL_o, jaUL_1, jaB_z, jaB_1, ↓jaB_01, Classical.not_not, and_self, true_or, or_true, nI_11, Nat.reduceEqDiff, Nat.reduceAdd, Nat.reduceMul, Nat.add_zero, Nat.zero_add, Nat.mul_zero, not_true_eq_false, not_false_eq_true, false_implies, true_implies, f1.s 60 (by decide), hP]
      refine ⟨o5, h _ ?_ ?_⟩
      · have so : ∀ o, o < 60 ∨ 68 ≤ o → (jaUI (jaUI (jaUI (jaUI (jaUI (jaUI (jaUI S1 61 0 (jz s 33) (nI n)) 63 0 (jz s 33) w) 62 0 (jz s 33) (r &&& (w ^^^ (-1 : Int32)))) 64 0 (jz s 33) (e' (9 * jz s 33 + 4))) 65 0 (jz s 33) (nI 0)) 66 0 (jz s 33) (-1)) 60 0 0 (nI (jz s 33 + 1))).1 o = S.1 o := fun o ho => by
          rw [jaUI_o (by omega), jaUI_o (by omega), jaUI_o (by omega), jaUI_o (by omega), jaUI_o (by omega), jaUI_o (by omega), jaUI_o (by omega)]
          exact f1.s o (by simp; omega)
        have s61 : (jaUI (jaUI (jaUI (jaUI (jaUI (jaUI (jaUI S1 61 0 (jz s 33) (nI n)) 63 0 (jz s 33) w) 62 0 (jz s 33) (r &&& (w ^^^ (-1 : Int32)))) 64 0 (jz s 33) (e' (9 * jz s 33 + 4))) 65 0 (jz s 33) (nI 0)) 66 0 (jz s 33) (-1)) 60 0 0 (nI (jz s 33 + 1))).1 61 0 = jaPt (S.1 61 0) (jz s 33) (nI n) := by
          simp (disch := first | omega | decide) only [jaU_eq, jaU_U, nI_add, pk_mul, jaIx_nI, vp_inT, true_and, and_true, ↓jaO0, ↓jaO1, nI_z, nI_z2, nI_z3, nI_z4, nI_z5, nI_lt', nI_le', nI_eq', jaUI_at, jaPt_eq, jaPt_ne, jaUI_o, jaUI_2, jaUL_at, jaUL_o, jaUL_1, jaB_z, jaB_1, ↓jaB_01, Classical.not_not, and_self, true_or, or_true, nI_11, Nat.reduceEqDiff, Nat.reduceAdd, Nat.reduceMul, Nat.add_zero, Nat.zero_add, Nat.mul_zero, not_true_eq_false, not_false_eq_true, false_implies, true_implies, f1.s 61 (by decide)]
        have s62 : (jaUI (jaUI (jaUI (jaUI (jaUI (jaUI (jaUI S1 61 0 (jz s 33) (nI n)) 63 0 (jz s 33) w) 62 0 (jz s 33) (r &&& (w ^^^ (-1 : Int32)))) 64 0 (jz s 33) (e' (9 * jz s 33 + 4))) 65 0 (jz s 33) (nI 0)) 66 0 (jz s 33) (-1)) 60 0 0 (nI (jz s 33 + 1))).1 62 0 = jaPt (S.1 62 0) (jz s 33) (r &&& (w ^^^ (-1 : Int32))) := by
          simp (disch := first | omega | decide) only [jaU_eq, jaU_U, nI_add, pk_mul, jaIx_nI, vp_inT, true_and, and_true, ↓jaO0, ↓jaO1, nI_z, nI_z2, nI_z3, nI_z4, nI_z5, nI_lt', nI_le', nI_eq', jaUI_at, jaPt_eq, jaPt_ne, jaUI_o, jaUI_2, jaUL_at, jaUL_o, jaUL_1, jaB_z, jaB_1, ↓jaB_01, Classical.not_not, and_self, true_or, or_true, nI_11, Nat.reduceEqDiff, Nat.reduceAdd, Nat.reduceMul, Nat.add_zero, Nat.zero_add, Nat.mul_zero, not_true_eq_false, not_false_eq_true, false_implies, true_implies, f1.s 62 (by decide)]
        have s63 : (jaUI (jaUI (jaUI (jaUI (jaUI (jaUI (jaUI S1 61 0 (jz s 33) (nI n)) 63 0 (jz s 33) w) 62 0 (jz s 33) (r &&& (w ^^^ (-1 : Int32)))) 64 0 (jz s 33) (e' (9 * jz s 33 + 4))) 65 0 (jz s 33) (nI 0)) 66 0 (jz s 33) (-1)) 60 0 0 (nI (jz s 33 + 1))).1 63 0 = jaPt (S.1 63 0) (jz s 33) w := by
          simp (disch := first | omega | decide) only [jaU_eq, jaU_U, nI_add, pk_mul, jaIx_nI, vp_inT, true_and, and_true, ↓jaO0, ↓jaO1, nI_z, nI_z2, nI_z3, nI_z4, nI_z5, nI_lt', nI_le', nI_eq', jaUI_at, jaPt_eq, jaPt_ne, jaUI_o, jaUI_2, jaUL_at, jaUL_o, jaUL_1, jaB_z, jaB_1, ↓jaB_01, Classical.not_not, and_self, true_or, or_true, nI_11, Nat.reduceEqDiff, Nat.reduceAdd, Nat.reduceMul, Nat.add_zero, Nat.zero_add, Nat.mul_zero, not_true_eq_false, not_false_eq_true, false_implies, true_implies, f1.s 63 (by decide)]
        have s64 : (jaUI (jaUI (jaUI (jaUI (jaUI (jaUI (jaUI S1 61 0 (jz s 33) (nI n)) 63 0 (jz s 33) w) 62 0 (jz s 33) (r &&& (w ^^^ (-1 : Int32)))) 64 0 (jz s 33) (e' (9 * jz s 33 + 4))) 65 0 (jz s 33) (nI 0)) 66 0 (jz s 33) (-1)) 60 0 0 (nI (jz s 33 + 1))).1 64 0 = jaPt (S.1 64 0) (jz s 33) (e' (9 * jz s 33 + 4)) := by
          simp (disch := first | omega | decide) only [jaU_eq, jaU_U, nI_add, pk_mul, jaIx_nI, vp_inT, true_and, and_true, ↓jaO0, ↓jaO1, nI_z, nI_z2, nI_z3, nI_z4, nI_z5, nI_lt', nI_le', nI_eq', jaUI_at, jaPt_eq, jaPt_ne, jaUI_o, jaUI_2, jaUL_at, jaUL_o, jaUL_1, jaB_z, jaB_1, ↓jaB_01, Classical.not_not, and_self, true_or, or_true, nI_11, Nat.reduceEqDiff, Nat.reduceAdd, Nat.reduceMul, Nat.add_zero, Nat.zero_add, Nat.mul_zero, not_true_eq_false, not_false_eq_true, false_implies, true_implies, f1.s 64 (by decide)]
        have s65 : (jaUI (jaUI (jaUI (jaUI (jaUI (jaUI (jaUI S1 61 0 (jz s 33) (nI n)) 63 0 (jz s 33) w) 62 0 (jz s 33) (r &&& (w ^^^ (-1 : Int32)))) 64 0 (jz s 33) (e' (9 * jz s 33 + 4))) 65 0 (jz s 33) (nI 0)) 66 0 (jz s 33) (-1)) 60 0 0 (nI (jz s 33 + 1))).1 65 0 = jaPt (S.1 65 0) (jz s 33) (nI 0) := by
          simp (disch := first | omega | decide) only [jaU_eq, jaU_U, nI_add, pk_mul, jaIx_nI, vp_inT, true_and, and_true, ↓jaO0, ↓jaO1, nI_z, nI_z2, nI_z3, nI_z4, nI_z5, nI_lt', nI_le', nI_eq', jaUI_at, jaPt_eq, jaPt_ne, jaUI_o, jaUI_2, jaUL_at, jaUL_o, jaUL_1, jaB_z, jaB_1, ↓jaB_01, Classical.not_not, and_self, true_or, or_true, nI_11, Nat.reduceEqDiff, Nat.reduceAdd, Nat.reduceMul, Nat.add_zero, Nat.zero_add, Nat.mul_zero, not_true_eq_false, not_false_eq_true, false_implies, true_implies, f1.s 65 (by decide)]
        have s66 : (jaUI (jaUI (jaUI (jaUI (jaUI (jaUI (jaUI S1 61 0 (jz s 33) (nI n)) 63 0 (jz s 33) w) 62 0 (jz s 33) (r &&& (w ^^^ (-1 : Int32)))) 64 0 (jz s 33) (e' (9 * jz s 33 + 4))) 65 0 (jz s 33) (nI 0)) 66 0 (jz s 33) (-1)) 60 0 0 (nI (jz s 33 + 1))).1 66 0 = jaPt (S.1 66 0) (jz s 33) (-1) := by
          simp (disch := first | omega | decide) only [jaU_eq, jaU_U, nI_add, pk_mul, jaIx_nI, vp_inT, true_and, and_true, ↓jaO0, ↓jaO1, nI_z, nI_z2, nI_z3, nI_z4, nI_z5, nI_lt', nI_le', nI_eq', jaUI_at, jaPt_eq, jaPt_ne, jaUI_o, jaUI_2, jaUL_at, jaUL_o, jaUL_1, jaB_z, jaB_1, ↓jaB_01, Classical.not_not, and_self, true_or, or_true, nI_11, Nat.reduceEqDiff, Nat.reduceAdd, Nat.reduceMul, Nat.add_zero, Nat.zero_add, Nat.mul_zero, not_true_eq_false, not_false_eq_true, false_implies, true_implies, f1.s 66 (by decide)]
        have s67 : (jaUI (jaUI (jaUI (jaUI (jaUI (jaUI (jaUI S1 61 0 (jz s 33) (nI n)) 63 0 (jz s 33) w) 62 0 (jz s 33) (r &&& (w ^^^ (-1 : Int32)))) 64 0 (jz s 33) (e' (9 * jz s 33 + 4))) 65 0 (jz s 33) (nI 0)) 66 0 (jz s 33) (-1)) 60 0 0 (nI (jz s 33 + 1))).1 67 0 = S1.1 67 0 := by
          simp (disch := first | omega | decide) only [jaU_eq, jaU_U, nI_add, pk_mul, jaIx_nI, vp_inT, true_and, and_true, ↓jaO0, ↓jaO1, nI_z, nI_z2, nI_z3, nI_z4, nI_z5, nI_lt', nI_le', nI_eq', jaUI_at, jaPt_eq, jaPt_ne, jaUI_o, jaUI_2, jaUL_at, jaUL_o, jaUL_1, jaB_z, jaB_1, ↓jaB_01, Classical.not_not, and_self, true_or, or_true, nI_11, Nat.reduceEqDiff, Nat.reduceAdd, Nat.reduceMul, Nat.add_zero, Nat.zero_add, Nat.mul_zero, not_true_eq_false, not_false_eq_true, false_implies, true_implies]
        have s60 : (jaUI (jaUI (jaUI (jaUI (jaUI (jaUI (jaUI S1 61 0 (jz s 33) (nI n)) 63 0 (jz s 33) w) 62 0 (jz s 33) (r &&& (w ^^^ (-1 : Int32)))) 64 0 (jz s 33) (e' (9 * jz s 33 + 4))) 65 0 (jz s 33) (nI 0)) 66 0 (jz s 33) (-1)) 60 0 0 (nI (jz s 33 + 1))).1 60 0 = jaPt (S.1 60 0) 0 (nI (jz s 33 + 1)) := by
          simp (disch := first | omega | decide) only [jaU_eq, jaU_U, nI_add, pk_mul, jaIx_nI, vp_inT, true_and, and_true, ↓jaO0, ↓jaO1, nI_z, nI_z2, nI_z3, nI_z4, nI_z5, nI_lt', nI_le', nI_eq', jaUI_at, jaPt_eq, jaPt_ne, jaUI_o, jaUI_2, jaUL_at, jaUL_o, jaUL_1, jaB_z, jaB_1, ↓jaB_01, Classical.not_not, and_self, true_or, or_true, nI_11, Nat.reduceEqDiff, Nat.reduceAdd, Nat.reduceMul, Nat.add_zero, Nat.zero_add, Nat.mul_zero, not_true_eq_false, not_false_eq_true, false_implies, true_implies, f1.s 60 (by decide)]
        generalize jaUI (jaUI (jaUI (jaUI (jaUI (jaUI (jaUI S1 61 0 (jz s 33) (nI n)) 63 0 (jz s 33) w) 62 0 (jz s 33) (r &&& (w ^^^ (-1 : Int32)))) 64 0 (jz s 33) (e' (9 * jz s 33 + 4))) 65 0 (jz s 33) (nI 0)) 66 0 (jz s 33) (-1)) 60 0 0 (nI (jz s 33 + 1)) = S2 at *
        have ne : ∀ j, j ≠ 33 → j ≠ 35 → j ≠ 81 + jz s 35 → jvComeS s j = s j := fun j a b c => jvComeS_ne a b c
        have z33 : jz (jvComeS s) 33 = jz s 33 + 1 := by rw [jz, jvComeS_33, h33, nI_add, jaIx_nI (by omega)]
        have z35 : jz (jvComeS s) 35 = jz s 35 + 1 := by rw [jz, jvComeS_35, h35, nI_add, jaIx_nI (by omega)]
        refine ⟨?_, ?_, ?_, ?_, ?_, ?_, ?_, ?_⟩
        · exact jRw_c (fun j hj => ne j (by omega) (by omega) (by omega)) hw (jRw_S (fun o h1 h2 => so o (by omega)) hR.w)
        · exact jRs_c (ne 32 (by omega) (by omega) (by omega)) (jRs_S (fun o h1 h2 => so o (by omega)) hR.s)
        · intro id hid
          have hid : id < jz (jvComeS s) 33 := hid
          rw [z33] at hid
          show jRi S2 d e' id
          unfold jRi
          rw [s61, s62, s63, s64, s67]
          by_cases q : id = jz s 33
          · rw [q, jaPt_eq, jaPt_eq, jaPt_eq, jaPt_eq, z0, e0, e2, n4]
            exact ⟨rfl, rfl, rfl, rfl, g2⟩
          · have hi := he id (by omega)
            obtain ⟨r1, r2, r3, r4, r5⟩ := hR.e id (show id < jz s 33 by omega)
            have ej : ∀ j, j < 9 → e' (9 * id + j) = e (9 * id + j) := fun j hj => eold _ (by omega)
            have ha := (hd _ hi.1.2).2.2.2.1.2
            rw [jaPt_ne q, jaPt_ne q, jaPt_ne q, jaPt_ne q, show e' (9 * id) = e (9 * id) from ej 0 (by decide), ej 2 (by decide), ej 3 (by decide), ej 4 (by decide), show jz e' (9 * id) = jz e (9 * id) from congrArg jaIx (ej 0 (by decide))]
            refine ⟨r1, r2, r3, r4, fun j hj => ?_⟩
            rw [g1 _ (by omega), r5 j hj, eold _ (by omega)]
        · obtain ⟨o1, o2, o3, o4⟩ := hR.o
          show jRo S2 (jvComeS s)
          unfold jRo
          rw [s60, s65, s66, so 68 (by omega), jaPt_eq, jaPt_ne (by decide), jvComeS_33, ne 34 (by omega) (by omega) (by omega), jz_c (ne 34 (by omega) (by omega) (by omega)), z35]
          refine ⟨by rw [h33, nI_add], o2, fun i hi => ?_, fun i hi => ?_⟩
          · have hi6 := h6 i hi
            rw [ne (41 + i) (by omega) (by omega) (by omega), jz_c (ne (41 + i) (by omega) (by omega) (by omega)), ne (415 + i) (by omega) (by omega) (by omega), jaPt_ne (by omega), jaPt_ne (by omega)]
            exact o3 i hi
          · by_cases q : i = jz s 35
            · have zn : jz (jvComeS s) (81 + jz s 35) = jz s 33 := congrArg jaIx jvComeS_new
              rw [q, zn, jaPt_eq, jaPt_eq]
              exact ⟨rfl, rfl⟩
            · have hi7 := h7 i (by omega)
              rw [jz_c (ne (81 + i) (by omega) (by omega) (by omega)), jaPt_ne (by omega), jaPt_ne (by omega)]
              exact o4 i (show i < jz s 35 by omega)
        · exact jRc_c (fun j hj => ne j (by omega) (by omega) (by omega)) hcp3 hK' hO (jRc_S (fun o h1 h2 => so o (by omega)) hR.c)
        · have hk := jRk_S (S' := S2) (fun o h1 h2 => so o (by omega)) hR.k
          have ec : ∀ j, j = 1 ∨ (36 ≤ j ∧ j ≤ 40) ∨ 145 ≤ j → jvComeS s j = s j := fun j hj => ne j (by omega) (by omega) (by omega)
          obtain ⟨a, b, c, dd, f⟩ := hk
          show jRk S2 (jvComeS s)
          unfold jRk
          rw [ec 36 (by omega), ec 37 (by omega), ec 38 (by omega), ec 39 (by omega), ec 40 (by omega), jz_c (ec 1 (by omega)), jz_c (ec 38 (by omega)), jz_c (ec 40 (by omega))]
          refine ⟨a, fun q => ⟨(b q).1, fun k hk hb => ?_, fun k hk => ?_⟩, c, fun k hk => ?_, fun i hi => ?_⟩
          · rw [ec (455 + k) (by omega)]; exact (b q).2.1 k hk hb
          · rw [ec (465 + k) (by omega)]; exact (b q).2.2 k hk
          · rw [ec (475 + k) (by omega)]; exact dd k hk
          · rw [ec (485 + i) (by omega)]; exact f i hi
        · show S2.1 40 0 5 = jvComeS s 31
          rw [so 40 (by omega), ne 31 (by omega) (by omega) (by omega)]
          exact hR.t
        · intro id hid h66
          have hid : id < jz (jvComeS s) 33 := hid
          rw [z33] at hid
          show ∃ j, j < jz (jvComeS s) 35 ∧ jz (jvComeS s) (81 + j) = id
          rw [z35]
          by_cases q : id = jz s 33
          · exact ⟨jz s 35, by omega, by rw [q]; exact congrArg jaIx jvComeS_new⟩
          · rw [s66, jaPt_ne q] at h66
            obtain ⟨j, h3, h4⟩ := hR.p id (show id < jz s 33 by omega) h66
            have h3 : j < jz s 35 := h3
            exact ⟨j, by omega, by rw [jz_c (ne (81 + j) (by omega) (by omega) (by omega))]; exact h4⟩
      · exact jcE_ui (by decide) (jcE_ui (by decide) (jcE_ui (by decide) (jcE_ui (by decide) (jcE_ui (by decide) (jcE_ui (by decide) (jcE_ui (by decide) (f1.e (by decide))))))))
  · intro S1 f1 g1 g2
    have hRt1 := jRt_S (S' := S1) (d := d) (n := n) (fun o h1 h2 => f1.s o (by simp; omega)) hRt
    have hrow := (hR.c 0 (show 0 < jz s 2 by omega)).1 _ (hda j hj).2
    apply jb_St_arriveEntry_2
    simp (disch := first | omega | decide) only [jaU_eq, jaU_U, nI_add, pk_mul, jaIx_nI, vp_inT, true_and, and_true, ↓jaO0, ↓jaO1, nI_z, nI_z2, nI_z3, nI_z4, nI_z5, nI_lt', nI_le', nI_eq', jaUI_at, jaPt_eq, jaPt_ne, jaUI_o, jaUI_2, jaUL_at, jaUL_o, jaUL_1, jaB_z, jaB_1, ↓jaB_01, Classical.not_not, and_self, true_or, or_true, nI_11, Nat.reduceEqDiff, Nat.reduceAdd, Nat.reduceMul, Nat.add_zero, Nat.zero_add, Nat.mul_zero, not_true_eq_false, not_false_eq_true, false_implies, true_implies, hRt1.2.2.1, f1.s 30 (by decide), hw1]
    rw [hd2]
    simp (disch := first | omega | decide) only [jaU_eq, jaU_U, nI_add, pk_mul, jaIx_nI, vp_inT, true_and, and_true, ↓jaO0, ↓jaO1, nI_z, nI_z2, nI_z3, nI_z4, nI_z5, nI_lt', nI_le', nI_eq', jaUI_at, jaPt_eq, jaPt_ne, jaUI_o, jaUI_2, jaUL_at, jaUL_o, jaUL_1, jaB_z, jaB_1, ↓jaB_01, Classical.not_not, and_self, true_or, or_true, nI_11, Nat.reduceEqDiff, Nat.reduceAdd, Nat.reduceMul, Nat.add_zero, Nat.zero_add, Nat.mul_zero, not_true_eq_false, not_false_eq_true, false_implies, true_implies]
    refine ⟨fun q => absurd q (by omega), fun _ => ?_⟩
    refine sp_Sc_keyAt_51 (by omega) hRt1 (by omega) hdn hK' hj ?_
    simp (disch := first | omega | decide) only [jaU_eq, jaU_U, nI_add, pk_mul, jaIx_nI, vp_inT, true_and, and_true, ↓jaO0, ↓jaO1, nI_z, nI_z2, nI_z3, nI_z4, nI_z5, nI_lt', nI_le', nI_eq', jaUI_at, jaPt_eq, jaPt_ne, jaUI_o, jaUI_2, jaUL_at, jaUL_o, jaUL_1, jaB_z, jaB_1, ↓jaB_01, Classical.not_not, and_self, true_or, or_true, nI_11, Nat.reduceEqDiff, Nat.reduceAdd, Nat.reduceMul, Nat.add_zero, Nat.zero_add, Nat.mul_zero, not_true_eq_false, not_false_eq_true, false_implies, true_implies]
    refine ih _ (f1.ui (by decide)) (fun q hq => ?_) (fun i hi => ?_)
    · simp (disch := first | omega | decide) only [jaU_eq, jaU_U, nI_add, pk_mul, jaIx_nI, vp_inT, true_and, and_true, ↓jaO0, ↓jaO1, nI_z, nI_z2, nI_z3, nI_z4, nI_z5, nI_lt', nI_le', nI_eq', jaUI_at, jaPt_eq, jaPt_ne, jaUI_o, jaUI_2, jaUL_at, jaUL_o, jaUL_1, jaB_z, jaB_1, ↓jaB_01, Classical.not_not, and_self, true_or, or_true, nI_11, Nat.reduceEqDiff, Nat.reduceAdd, Nat.reduceMul, Nat.add_zero, Nat.zero_add, Nat.mul_zero, not_true_eq_false, not_false_eq_true, false_implies, true_implies]
      exact g1 q hq
    · simp (disch := first | omega | decide) only [jaU_eq, jaU_U, nI_add, pk_mul, jaIx_nI, vp_inT, true_and, and_true, ↓jaO0, ↓jaO1, nI_z, nI_z2, nI_z3, nI_z4, nI_z5, nI_lt', nI_le', nI_eq', jaUI_at, jaPt_eq, jaPt_ne, jaUI_o, jaUI_2, jaUL_at, jaUL_o, jaUL_1, jaB_z, jaB_1, ↓jaB_01, Classical.not_not, and_self, true_or, or_true, nI_11, Nat.reduceEqDiff, Nat.reduceAdd, Nat.reduceMul, Nat.add_zero, Nat.zero_add, Nat.mul_zero, not_true_eq_false, not_false_eq_true, false_implies, true_implies]
      by_cases q : i = j
      · rw [q, show 4 * jz s 33 + j = jz s 33 * 4 + j by omega, jaPt_eq, ef j hj, f1.s 51 (by decide), hrow]
      · rw [jaPt_ne (by omega)]
        exact g2 i (by omega)
end
