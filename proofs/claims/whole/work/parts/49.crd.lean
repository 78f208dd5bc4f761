section
/-! the class: all tokens; what asks for them -/
theorem jtE_s {X : jtX} {a : Nat} (ha : a < X.2.1) : a + 1 ≤ jtE X a ∧ jtE X a ≤ X.2.1 := by
  unfold jtE
  have hr := jtRn_s X a
  by_cases q : jtO (X.1 a)
  · rw [jaIf1_t q]
    have hb : a < jtRn X a := by
      rcases Nat.lt_or_ge a (jtRn X a) with z | z
      · exact z
      · have := hr.2.2
        rw [show jtRn X a = a by omega] at this
        exact absurd ⟨ha, q⟩ this
    have := (hr.2.1 (jtRn X a - 1) (by omega) (by omega)).1
    omega
  · rw [jaIf1_f q]
    omega
/-- the class's reader: at the i-th of its tokens -/
def jtR (S : jaS) (X : jtX) (i : Nat) : Prop := (∀ q, X.1 q < 256) ∧ ∃ N, 1 ≤ N ∧ N ≤ 941 ∧ jtC S X N ∧ S.1 2 0 3 = nI N ∧ S.1 2 0 4 = nI (min i (N - 1)) ∧ jtFi X (jtA X (N - 1))
/-- sorts but those of the reader -/
def jtF (S S' : jaS) : Prop := ∀ o, o < 2 ∨ 5 ≤ o → S'.1 o = S.1 o
set_option maxHeartbeats 1000000 in
theorem sp_Rd_begin {D : Nat} (hD : 8 ≤ D) {kk : jaT → Prop} {σ : jaT} {S : jaS} {X : jtX} (hX : ∀ q, X.1 q < 256) (hT : jtT S X) (hl : X.2.1 ≤ 940) (hm : X.2.2 ≤ 940)
    (h : ∀ S', jtF S S' → jtR S' X 0 → S'.1 2 0 5 = nI 0 → S'.1 2 0 6 = nI 0 → kk (jaU σ 0 S')) :
    jaDe D jy_Rd_begin [.inr (.inr (2, 0, 0)), .inr (.inr (1, 0, 0)), .inl (nI X.2.1), .inl (nI X.2.2)] (jaU σ 0 S) (jaKv kk) := by
  obtain ⟨D, rfl, hD⟩ := jaSuc hD
  apply js_Rd_begin
  simp (disch := first | omega | decide) only [jaU_eq, jaU_U, nI_add, pk_mul, jaIx_nI, vp_inT, true_and, and_true, ↓jaO0, ↓jaO1, nI_z, nI_z2, nI_z3, nI_z4, nI_z5, nI_lt', nI_le', nI_eq', jaUI_at, jaPt_eq, jaPt_ne, jaUI_o, jaUI_2, jaUL_at, jaUL_o, jaUL_1, jaB_z, jaB_1, ↓jaB_01, Classical.not_not, and_self, true_or, or_true, nI_11, Nat.reduceEqDiff, Nat.reduceAdd, Nat.reduceMul, Nat.add_zero, Nat.zero_add, Nat.mul_zero, not_true_eq_false, not_false_eq_true, false_implies, true_implies]
  have FT : ∀ S', jtF S S' → jtT S' X := fun S' f => by
    intro j hj
    rw [f 1 (by omega)]
    exact hT j hj
  -- the last
  have E : ∀ i m S', i ≤ X.2.1 → m ≤ i → (X.2.1 ≤ i ∨ X.2.2 ≤ i) → (i ≤ jtP X m ∨ ∀ q, jtP X m ≤ q → q < i → jtBq X q) → jtF S S' → jtC S' X m → S'.1 2 0 3 = nI m → S'.1 2 0 4 = nI 0 → S'.1 2 0 5 = nI 0 → S'.1 2 0 6 = nI 0 →
      (X.2.1 ≤ X.2.2 → jaDe D jy_Rd_addToken [.inr (.inr (2, 0, 0)), .inl (nI 1), .inl (nI X.2.1), .inr (.inl (Int64.ofNat 0))] (jaU σ 0 S') (jaKv fun σ1 => kk σ1)) ∧
      (¬ X.2.1 ≤ X.2.2 → jaDe D jy_Rd_addToken [.inr (.inr (2, 0, 0)), .inl (nI 0), .inl (nI X.2.2), .inr (.inl (Int64.ofNat 0))] (jaU σ 0 S') (jaKv fun σ1 => kk σ1)) := by
    intro i m S' hil hmi hend hq f c a3 a4 a5 a6
    have hs := jtSk_s X (jtP X m)
    have hA : i ≤ jtA X m := by
      show i ≤ jtSk X (jtP X m)
      rcases hq with z | z
      · omega
      · rcases Nat.lt_or_ge (jtSk X (jtP X m)) i with y | y
        · exact absurd (z _ hs.1 y) hs.2.2
        · exact y
    have hF : jtFi X (jtA X m) := by
      unfold jtFi
      omega
    have hK : jtK X m = jaIf1 (X.2.2 < X.2.1) 0 1 := jaIf1_t hF
    have hAt : jtAt X m = min X.2.1 X.2.2 := jaIf1_t hF
    have G : ∀ v p : Nat, jtK X m = v → v ≤ 1 → jtAt X m = p → jaDe D jy_Rd_addToken [.inr (.inr (2, 0, 0)), .inl (nI v), .inl (nI p), .inr (.inl (Int64.ofNat 0))] (jaU σ 0 S') (jaKv fun σ1 => kk σ1) := by
      intro v p hv hv1 hp
      refine sp_Rd_addToken (by omega) a3 (by omega) (h _ (fun o ho => ?_) ⟨hX, m + 1, by omega, by omega, fun j hj => ?_, ?_, ?_, ?_⟩ ?_ ?_)
      · rw [jaUI_o (by omega), jaUL_1, jaUI_o (by omega), jaUI_o (by omega)]
        exact f o ho
      · by_cases e : j = m
        · subst e
          simp (disch := first | omega | decide) only [jaU_eq, jaU_U, nI_add, pk_mul, jaIx_nI, vp_inT, true_and, and_true, ↓jaO0, ↓jaO1, nI_z, nI_z2, nI_z3, nI_z4, nI_z5, nI_lt', nI_le', nI_eq', jaUI_at, jaPt_eq, jaPt_ne, jaUI_o, jaUI_2, jaUL_at, jaUL_o, jaUL_1, jaB_z, jaB_1, ↓jaB_01, Classical.not_not, and_self, true_or, or_true, nI_11, Nat.reduceEqDiff, Nat.reduceAdd, Nat.reduceMul, Nat.add_zero, Nat.zero_add, Nat.mul_zero, not_true_eq_false, not_false_eq_true, false_implies, true_implies]
          rw [hv, hp]
          exact ⟨rfl, rfl, fun z => absurd z (by omega), fun z => absurd z (by omega)⟩
        · obtain ⟨c1, c2, c3, c4⟩ := c j (by omega)
          simp (disch := first | omega | decide) only [jaU_eq, jaU_U, nI_add, pk_mul, jaIx_nI, vp_inT, true_and, and_true, ↓jaO0, ↓jaO1, nI_z, nI_z2, nI_z3, nI_z4, nI_z5, nI_lt', nI_le', nI_eq', jaUI_at, jaPt_eq, jaPt_ne, jaUI_o, jaUI_2, jaUL_at, jaUL_o, jaUL_1, jaB_z, jaB_1, ↓jaB_01, Classical.not_not, and_self, true_or, or_true, nI_11, Nat.reduceEqDiff, Nat.reduceAdd, Nat.reduceMul, Nat.add_zero, Nat.zero_add, Nat.mul_zero, not_true_eq_false, not_false_eq_true, false_implies, true_implies]
          refine ⟨c1, c2, fun z => ?_, fun z => ?_⟩
          · show (if j = m then _ else _) = _
            rw [if_neg e]
            exact c3 z
          · show (if j = m then _ else _) = _
            rw [if_neg e]
            exact c4 z
      · simp (disch := first | omega | decide) only [jaU_eq, jaU_U, nI_add, pk_mul, jaIx_nI, vp_inT, true_and, and_true, ↓jaO0, ↓jaO1, nI_z, nI_z2, nI_z3, nI_z4, nI_z5, nI_lt', nI_le', nI_eq', jaUI_at, jaPt_eq, jaPt_ne, jaUI_o, jaUI_2, jaUL_at, jaUL_o, jaUL_1, jaB_z, jaB_1, ↓jaB_01, Classical.not_not, and_self, true_or, or_true, nI_11, Nat.reduceEqDiff, Nat.reduceAdd, Nat.reduceMul, Nat.add_zero, Nat.zero_add, Nat.mul_zero, not_true_eq_false, not_false_eq_true, false_implies, true_implies]
      · rw [Nat.add_sub_cancel, Nat.zero_min]
        simp (disch := first | omega | decide) only [jaU_eq, jaU_U, nI_add, pk_mul, jaIx_nI, vp_inT, true_and, and_true, ↓jaO0, ↓jaO1, nI_z, nI_z2, nI_z3, nI_z4, nI_z5, nI_lt', nI_le', nI_eq', jaUI_at, jaPt_eq, jaPt_ne, jaUI_o, jaUI_2, jaUL_at, jaUL_o, jaUL_1, jaB_z, jaB_1, ↓jaB_01, Classical.not_not, and_self, true_or, or_true, nI_11, Nat.reduceEqDiff, Nat.reduceAdd, Nat.reduceMul, Nat.add_zero, Nat.zero_add, Nat.mul_zero, not_true_eq_false, not_false_eq_true, false_implies, true_implies, a4]
      · rw [Nat.add_sub_cancel]
        exact hF
      · simp (disch := first | omega | decide) only [jaU_eq, jaU_U, nI_add, pk_mul, jaIx_nI, vp_inT, true_and, and_true, ↓jaO0, ↓jaO1, nI_z, nI_z2, nI_z3, nI_z4, nI_z5, nI_lt', nI_le', nI_eq', jaUI_at, jaPt_eq, jaPt_ne, jaUI_o, jaUI_2, jaUL_at, jaUL_o, jaUL_1, jaB_z, jaB_1, ↓jaB_01, Classical.not_not, and_self, true_or, or_true, nI_11, Nat.reduceEqDiff, Nat.reduceAdd, Nat.reduceMul, Nat.add_zero, Nat.zero_add, Nat.mul_zero, not_true_eq_false, not_false_eq_true, false_implies, true_implies, a5]
      · simp (disch := first | omega | decide) only [jaU_eq, jaU_U, nI_add, pk_mul, jaIx_nI, vp_inT, true_and, and_true, ↓jaO0, ↓jaO1, nI_z, nI_z2, nI_z3, nI_z4, nI_z5, nI_lt', nI_le', nI_eq', jaUI_at, jaPt_eq, jaPt_ne, jaUI_o, jaUI_2, jaUL_at, jaUL_o, jaUL_1, jaB_z, jaB_1, ↓jaB_01, Classical.not_not, and_self, true_or, or_true, nI_11, Nat.reduceEqDiff, Nat.reduceAdd, Nat.reduceMul, Nat.add_zero, Nat.zero_add, Nat.mul_zero, not_true_eq_false, not_false_eq_true, false_implies, true_implies, a6]
    refine ⟨fun z => G 1 _ (by rw [hK, jaIf1_f (by omega)]) (by omega) (by rw [hAt, Nat.min_eq_left z]), fun z => G 0 _ (by rw [hK, jaIf1_t (by omega)]) (by omega) (by rw [hAt, Nat.min_eq_right (by omega)])⟩
  have B : ∀ n i m S', i + n = 940 → i ≤ X.2.1 → m ≤ i → jtP X m ≤ X.2.1 → (i ≤ jtP X m ∨ ∀ q, jtP X m ≤ q → q < i → jtBq X q) → jtF S S' → jtC S' X m → S'.1 2 0 3 = nI m → S'.1 2 0 4 = nI 0 → S'.1 2 0 5 = nI 0 → S'.1 2 0 6 = nI 0 → jc_Rd_begin_1 D kk (nI X.2.1) (nI X.2.2) (nI (jtP X m)) (nI i) (jaU σ 0 S') := by
    intro n
    induction n with
    | zero =>
      intro i m S' hi hil hmi hP hq f c a3 a4 a5 a6
      have e := E i m S' hil hmi (by omega) hq f c a3 a4 a5 a6
      apply jb_Rd_begin_1
      simp (disch := first | omega | decide) only [jaU_eq, jaU_U, nI_add, pk_mul, jaIx_nI, vp_inT, true_and, and_true, ↓jaO0, ↓jaO1, nI_z, nI_z2, nI_z3, nI_z4, nI_z5, nI_lt', nI_le', nI_eq', jaUI_at, jaPt_eq, jaPt_ne, jaUI_o, jaUI_2, jaUL_at, jaUL_o, jaUL_1, jaB_z, jaB_1, ↓jaB_01, Classical.not_not, and_self, true_or, or_true, nI_11, Nat.reduceEqDiff, Nat.reduceAdd, Nat.reduceMul, Nat.add_zero, Nat.zero_add, Nat.mul_zero, not_true_eq_false, not_false_eq_true, false_implies, true_implies]
      exact ⟨fun _ => e, fun z => absurd (show X.2.1 ≤ i by omega) z⟩
    | succ n ih =>
      intro i m S' hi hil hmi hP hq f c a3 a4 a5 a6
      apply jb_Rd_begin_1
      simp (disch := first | omega | decide) only [jaU_eq, jaU_U, nI_add, pk_mul, jaIx_nI, vp_inT, true_and, and_true, ↓jaO0, ↓jaO1, nI_z, nI_z2, nI_z3, nI_z4, nI_z5, nI_lt', nI_le', nI_eq', jaUI_at, jaPt_eq, jaPt_ne, jaUI_o, jaUI_2, jaUL_at, jaUL_o, jaUL_1, jaB_z, jaB_1, ↓jaB_01, Classical.not_not, and_self, true_or, or_true, nI_11, Nat.reduceEqDiff, Nat.reduceAdd, Nat.reduceMul, Nat.add_zero, Nat.zero_add, Nat.mul_zero, not_true_eq_false, not_false_eq_true, false_implies, true_implies]
      refine ⟨fun z => E i m S' hil hmi (Or.inl z) hq f c a3 a4 a5 a6, fun z1 => ⟨fun z => E i m S' hil hmi (Or.inr z) hq f c a3 a4 a5 a6, fun z2 => ⟨fun z3 => ?_, fun z3 => ?_⟩⟩⟩
      · exact ih (i + 1) m S' (by omega) (by omega) (by omega) hP (Or.inl (by omega)) f c a3 a4 a5 a6
      · obtain ⟨t1, t2⟩ := FT S' f i (by omega)
        simp (disch := first | omega | decide) only [jaU_eq, jaU_U, nI_add, pk_mul, jaIx_nI, vp_inT, true_and, and_true, ↓jaO0, ↓jaO1, nI_z, nI_z2, nI_z3, nI_z4, nI_z5, nI_lt', nI_le', nI_eq', jaUI_at, jaPt_eq, jaPt_ne, jaUI_o, jaUI_2, jaUL_at, jaUL_o, jaUL_1, jaB_z, jaB_1, ↓jaB_01, Classical.not_not, and_self, true_or, or_true, nI_11, Nat.reduceEqDiff, Nat.reduceAdd, Nat.reduceMul, Nat.add_zero, Nat.zero_add, Nat.mul_zero, not_true_eq_false, not_false_eq_true, false_implies, true_implies, t1]
        have bl : jtB (X.1 i) → jc_Rd_begin_1 D kk (nI X.2.1) (nI X.2.2) (nI (jtP X m)) (nI (i + 1)) (jaU σ 0 S') := fun z => by
          refine ih (i + 1) m S' (by omega) (by omega) (by omega) hP (Or.inr (fun q h1 h2 => ?_)) f c a3 a4 a5 a6
          by_cases e : q = i
          · rw [e]
            exact ⟨by omega, z⟩
          · rcases hq with y | y
            · omega
            · exact y q h1 (by omega)
        refine ⟨fun z => bl (Or.inl z), fun z4 => ⟨fun z => bl (Or.inr z), fun z5 => ?_⟩⟩
        have hA : jtA X m = i := jtSk_u (by omega) (fun q h1 h2 => by
          rcases hq with y | y
          · omega
          · exact y q h1 h2) (fun z => z.2.elim z4 z5)
        have hF : ¬ jtFi X i := by
          unfold jtFi
          omega
        have hK : jtK X m = jtKa X i := by
          unfold jtK
          rw [hA, jaIf1_f hF]
        have hAt : jtAt X m = i := by
          unfold jtAt
          rw [hA, jaIf1_f hF]
        have hV : jtV X m = jtNv X i (jtRn X i - i) := by
          unfold jtV
          rw [hA]
        have hW : jtW X m = jtWv X i (jtRn X i - i) := by
          unfold jtW
          rw [hA]
        have hPs : jtP X (m + 1) = jtE X i := by
          rw [jtP_s, hA, jaIf1_f hF]
        obtain ⟨e1, e2⟩ := jtE_s (X := X) (a := i) (by omega)
        refine sp_Rd_readToken (by omega) hX (FT S' f) hl (by omega) a3 (by omega) (fun V v2 v3 => ?_)
        rw [← hPs, ← hK]
        (try simp (disch := first | omega | decide) only [jaU_eq, jaU_U, nI_add, pk_mul, jaIx_nI, vp_inT, true_and, and_true, ↓jaO0, ↓jaO1, nI_z, nI_z2, nI_z3, nI_z4, nI_z5, nI_lt', nI_le', nI_eq', jaUI_at, jaPt_eq, jaPt_ne, jaUI_o, jaUI_2, jaUL_at, jaUL_o, jaUL_1, jaB_z, jaB_1, ↓jaB_01, Classical.not_not, and_self, true_or, or_true, nI_11, Nat.reduceEqDiff, Nat.reduceAdd, Nat.reduceMul, Nat.add_zero, Nat.zero_add, Nat.mul_zero, not_true_eq_false, not_false_eq_true, false_implies, true_implies])
        refine ih (i + 1) (m + 1) _ (by omega) (by omega) (by omega) (by omega) (Or.inl (by omega)) (fun o ho => ?_) (fun j hj => ?_) ?_ ?_ ?_ ?_
        · rw [jaUI_o (by omega), jaUL_1, jaUI_o (by omega), jaUI_o (by omega)]
          exact f o ho
        · by_cases e : j = m
          · subst e
            simp (disch := first | omega | decide) only [jaU_eq, jaU_U, nI_add, pk_mul, jaIx_nI, vp_inT, true_and, and_true, ↓jaO0, ↓jaO1, nI_z, nI_z2, nI_z3, nI_z4, nI_z5, nI_lt', nI_le', nI_eq', jaUI_at, jaPt_eq, jaPt_ne, jaUI_o, jaUI_2, jaUL_at, jaUL_o, jaUL_1, jaB_z, jaB_1, ↓jaB_01, Classical.not_not, and_self, true_or, or_true, nI_11, Nat.reduceEqDiff, Nat.reduceAdd, Nat.reduceMul, Nat.add_zero, Nat.zero_add, Nat.mul_zero, not_true_eq_false, not_false_eq_true, false_implies, true_implies]
            rw [hAt, hK, hV, hW]
            refine ⟨rfl, fun z => ?_, fun z => ?_⟩
            · show (if j = j then _ else _) = _
              rw [if_pos rfl]
              exact v2 z
            · show (if j = j then _ else _) = _
              rw [if_pos rfl]
              exact v3 z
          · obtain ⟨c1, c2, c3, c4⟩ := c j (by omega)
            simp (disch := first | omega | decide) only [jaU_eq, jaU_U, nI_add, pk_mul, jaIx_nI, vp_inT, true_and, and_true, ↓jaO0, ↓jaO1, nI_z, nI_z2, nI_z3, nI_z4, nI_z5, nI_lt', nI_le', nI_eq', jaUI_at, jaPt_eq, jaPt_ne, jaUI_o, jaUI_2, jaUL_at, jaUL_o, jaUL_1, jaB_z, jaB_1, ↓jaB_01, Classical.not_not, and_self, true_or, or_true, nI_11, Nat.reduceEqDiff, Nat.reduceAdd, Nat.reduceMul, Nat.add_zero, Nat.zero_add, Nat.mul_zero, not_true_eq_false, not_false_eq_true, false_implies, true_implies]
            refine ⟨c1, c2, fun z => ?_, fun z => ?_⟩
            · show (if j = m then _ else _) = _
              rw [if_neg e]
              exact c3 z
            · show (if j = m then _ else _) = _
              rw [if_neg e]
              exact c4 z
        · simp (disch := first | omega | decide) only [jaU_eq, jaU_U, nI_add, pk_mul, jaIx_nI, vp_inT, true_and, and_true, ↓jaO0, ↓jaO1, nI_z, nI_z2, nI_z3, nI_z4, nI_z5, nI_lt', nI_le', nI_eq', jaUI_at, jaPt_eq, jaPt_ne, jaUI_o, jaUI_2, jaUL_at, jaUL_o, jaUL_1, jaB_z, jaB_1, ↓jaB_01, Classical.not_not, and_self, true_or, or_true, nI_11, Nat.reduceEqDiff, Nat.reduceAdd, Nat.reduceMul, Nat.add_zero, Nat.zero_add, Nat.mul_zero, not_true_eq_false, not_false_eq_true, false_implies, true_implies]
        · simp (disch := first | omega | decide) only [jaU_eq, jaU_U, nI_add, pk_mul, jaIx_nI, vp_inT, true_and, and_true, ↓jaO0, ↓jaO1, nI_z, nI_z2, nI_z3, nI_z4, nI_z5, nI_lt', nI_le', nI_eq', jaUI_at, jaPt_eq, jaPt_ne, jaUI_o, jaUI_2, jaUL_at, jaUL_o, jaUL_1, jaB_z, jaB_1, ↓jaB_01, Classical.not_not, and_self, true_or, or_true, nI_11, Nat.reduceEqDiff, Nat.reduceAdd, Nat.reduceMul, Nat.add_zero, Nat.zero_add, Nat.mul_zero, not_true_eq_false, not_false_eq_true, false_implies, true_implies, a4]
        · simp (disch := first | omega | decide) only [jaU_eq, jaU_U, nI_add, pk_mul, jaIx_nI, vp_inT, true_and, and_true, ↓jaO0, ↓jaO1, nI_z, nI_z2, nI_z3, nI_z4, nI_z5, nI_lt', nI_le', nI_eq', jaUI_at, jaPt_eq, jaPt_ne, jaUI_o, jaUI_2, jaUL_at, jaUL_o, jaUL_1, jaB_z, jaB_1, ↓jaB_01, Classical.not_not, and_self, true_or, or_true, nI_11, Nat.reduceEqDiff, Nat.reduceAdd, Nat.reduceMul, Nat.add_zero, Nat.zero_add, Nat.mul_zero, not_true_eq_false, not_false_eq_true, false_implies, true_implies, a5]
        · simp (disch := first | omega | decide) only [jaU_eq, jaU_U, nI_add, pk_mul, jaIx_nI, vp_inT, true_and, and_true, ↓jaO0, ↓jaO1, nI_z, nI_z2, nI_z3, nI_z4, nI_z5, nI_lt', nI_le', nI_eq', jaUI_at, jaPt_eq, jaPt_ne, jaUI_o, jaUI_2, jaUL_at, jaUL_o, jaUL_1, jaB_z, jaB_1, ↓jaB_01, Classical.not_not, and_self, true_or, or_true, nI_11, Nat.reduceEqDiff, Nat.reduceAdd, Nat.reduceMul, Nat.add_zero, Nat.zero_add, Nat.mul_zero, not_true_eq_false, not_false_eq_true, false_implies, true_implies, a6]
  exact B 940 0 0 _ rfl (by omega) (by omega) (by rw [show jtP X 0 = 0 from rfl]; omega) (Or.inl (by omega)) (fun o ho => by rw [jaUI_o (by omega), jaUI_o (by omega), jaUI_o (by omega), jaUI_o (by omega)]) (fun j hj => absurd hj (by omega)) (by simp (disch := first | omega | decide) only [jaU_eq, jaU_U, nI_add, pk_mul, jaIx_nI, vp_inT, true_and, and_true, ↓jaO0, ↓jaO1, nI_z, nI_z2, nI_z3, nI_z4, nI_z5, nI_lt', nI_le', nI_eq', jaUI_at, jaPt_eq, jaPt_ne, jaUI_o, jaUI_2, jaUL_at, jaUL_o, jaUL_1, jaB_z, jaB_1, ↓jaB_01, Classical.not_not, and_self, true_or, or_true, nI_11, Nat.reduceEqDiff, Nat.reduceAdd, Nat.reduceMul, Nat.add_zero, Nat.zero_add, Nat.mul_zero, not_true_eq_false, not_false_eq_true, false_implies, true_implies]) (by simp (disch := first | omega | decide) only [jaU_eq, jaU_U, nI_add, pk_mul, jaIx_nI, vp_inT, true_and, and_true, ↓jaO0, ↓jaO1, nI_z, nI_z2, nI_z3, nI_z4, nI_z5, nI_lt', nI_le', nI_eq', jaUI_at, jaPt_eq, jaPt_ne, jaUI_o, jaUI_2, jaUL_at, jaUL_o, jaUL_1, jaB_z, jaB_1, ↓jaB_01, Classical.not_not, and_self, true_or, or_true, nI_11, Nat.reduceEqDiff, Nat.reduceAdd, Nat.reduceMul, Nat.add_zero, Nat.zero_add, Nat.mul_zero, not_true_eq_false, not_false_eq_true, false_implies, true_implies]) (by simp (disch := first | omega | decide) only [jaU_eq, jaU_U, nI_add, pk_mul, jaIx_nI, vp_inT, true_and, and_true, ↓jaO0, ↓jaO1, nI_z, nI_z2, nI_z3, nI_z4, nI_z5, nI_lt', nI_le', nI_eq', jaUI_at, jaPt_eq, jaPt_ne, jaUI_o, jaUI_2, jaUL_at, jaUL_o, jaUL_1, jaB_z, jaB_1, ↓jaB_01, Classical.not_not, and_self, true_or, or_true, nI_11, Nat.reduceEqDiff, Nat.reduceAdd, Nat.reduceMul, Nat.add_zero, Nat.zero_add, Nat.mul_zero, not_true_eq_false, not_false_eq_true, false_implies, true_implies]) (by simp (disch := first | omega | decide) only [jaU_eq, jaU_U, nI_add, pk_mul, jaIx_nI, vp_inT, true_and, and_true, ↓jaO0, ↓jaO1, nI_z, nI_z2, nI_z3, nI_z4, nI_z5, nI_lt', nI_le', nI_eq', jaUI_at, jaPt_eq, jaPt_ne, jaUI_o, jaUI_2, jaUL_at, jaUL_o, jaUL_1, jaB_z, jaB_1, ↓jaB_01, Classical.not_not, and_self, true_or, or_true, nI_11, Nat.reduceEqDiff, Nat.reduceAdd, Nat.reduceMul, Nat.add_zero, Nat.zero_add, Nat.mul_zero, not_true_eq_false, not_false_eq_true, false_implies, true_implies])
end
