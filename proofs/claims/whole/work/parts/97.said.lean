section
/-! said, both sides -/
def jgSk (F : Nat → Int32) (st : List Prop) : Prop := ∀ (j : Nat) (b : Prop), st.reverse[j]? = some b → F j = jaB b
theorem jgSk_t {F : Nat → Int32} {b : Prop} {r : List Prop} (h : jgSk F (b :: r)) : F r.length = jaB b ∧ jgSk F r := by
  refine ⟨h r.length b ?_, fun j c hj => h j c ?_⟩
  · rw [List.reverse_cons, List.getElem?_append_right (by rw [List.length_reverse]; exact Nat.le_refl _), List.length_reverse, Nat.sub_self]
    rfl
  · rw [List.reverse_cons, List.getElem?_append_left (jgLt hj)]
    exact hj
theorem jgSk_p {F : Nat → Int32} {b : Prop} {r : List Prop} (h : jgSk F r) : jgSk (jaPt F r.length (jaB b)) (b :: r) := by
  intro j c hj
  rw [List.reverse_cons] at hj
  rcases jgAp hj with ⟨y, z⟩ | ⟨y, rfl⟩
  · rw [List.length_reverse] at y
    rw [jaPt_ne (by omega)]
    exact h j c z
  · rw [List.length_reverse] at y
    rw [y, jaPt_eq]
theorem jgSk_u {F : Nat → Int32} {b : Prop} {r : List Prop} {v : Int32} (h : jgSk F r) (hv : v = jaB b) : jgSk (jaPt F r.length v) (b :: r) := by rw [hv]; exact jgSk_p h
theorem jgSk_o {F : Nat → Int32} {r : List Prop} {q : Nat} {v : Int32} (h : jgSk F r) (hq : r.length ≤ q) : jgSk (jaPt F q v) r := by
  intro j c hj
  have := jgLt hj
  rw [List.length_reverse] at this
  rw [jaPt_ne (by omega)]
  exact h j c hj
set_option maxHeartbeats 4000000 in
theorem sp_M_isSaid {D : Nat} (hD : 7 ≤ D) {kk : Int32 → jaT → Prop} {σ : jaT} {S : jaS} {s d e : jvA} {i : Nat} {l : List jbY} (hs : S.1 72 0 = s) (he : S.1 76 0 = e) (hW : jW s d e) (h525 : s 525 = nI l.length) (hr : jgRow (fun j => s (526 + j)) l) (hl : l.length ≤ 39) (hok : ∀ c, c ∈ l → jgOk c) (hP : jgP l 0) (hi : i < jz s 34)
    (h : ∀ b, jgEv (jgLf s e i) l [] = [b] → ∀ S', jaFr [90] [] S S' → kk (jaB b) (jaU σ 20 S')) : jaDe D jy_M_isSaid [jaMo, .inl (nI i)] (jaU σ 20 S) (jaKi kk) := by
  obtain ⟨D, rfl, hD⟩ := jaSuc hD
  have L : ∀ (rest done : List jbY) (st : List Prop) (S1 : jaS) (u : Option jaV), l = done ++ rest → jgP rest st.length → st.length ≤ done.length → jgSk (S1.1 90 0) st → jaFr [90] [] S S1 → (∀ b, jgEv (jgLf s e i) rest st = [b] → ∀ S', jaFr [90] [] S S' → kk (jaB b) (jaU σ 20 S')) → jc_M_isSaid_1 D kk (nI i) (nI st.length) (nI done.length) u (jaU σ 20 S1) := by
    intro rest
    induction rest with
    | nil =>
      intro done st S1 u hd hp hsl hb f h
      have hl2 : l.length = done.length := by rw [hd, List.append_nil]
      have s1 : S1.1 72 0 = s := by rw [f.s 72 (by decide) (by decide)]; exact hs
      obtain ⟨b, rfl⟩ : ∃ b, st = [b] := by
        have hp : st.length = 1 := hp
        rcases st with _ | ⟨b, r⟩
        · exact absurd hp (by simp)
        · rcases r with _ | ⟨b2, r⟩
          · exact ⟨b, rfl⟩
          · rw [List.length_cons, List.length_cons] at hp
            omega
      have hk := h b rfl S1 f
      have t := (jgSk_t hb).1
      have t : S1.1 90 0 0 = jaB b := t
      apply jb_M_isSaid_1
      simp (disch := first | omega | decide) only [jaU_eq, jaU_U, nI_add, pk_mul, jaIx_nI, vp_inT, true_and, and_true, ↓jaO0, ↓jaO1, nI_z, nI_z2, nI_z3, nI_z4, nI_z5, nI_lt', nI_le', nI_eq', jaUI_at, jaPt_eq, jaPt_ne, jaUI_o, jaUI_2, jaUL_at, jaUL_o, jaUL_1, jaB_z, jaB_1, ↓jaB_01, Classical.not_not, and_self, true_or, or_true, nI_11, Nat.reduceEqDiff, Nat.reduceAdd, Nat.reduceMul, Nat.add_zero, Nat.zero_add, Nat.mul_zero, not_true_eq_false, not_false_eq_true, false_implies, true_implies, s1, h525, hl2, t]
      have hb01 : ¬ b ∨ jaB b = 1 := by
        by_cases z : b
        · exact Or.inr (by rw [jaB_t z]; rfl)
        · exact Or.inl z
      exact ⟨fun _ => ⟨hb01, hk⟩, fun z => absurd (Nat.le_refl _) z⟩
    | cons c rest ih =>
      intro done st S1 u hd hp hsl hb f h
      have s1 : S1.1 72 0 = s := by rw [f.s 72 (by decide) (by decide)]; exact hs
      have hl2 : l.length = done.length + (rest.length + 1) := by rw [hd, List.length_append, List.length_cons]
      have hc : l[done.length]? = some c := by
        rw [hd, List.getElem?_append_right (Nat.le_refl _), Nat.sub_self]
        rfl
      have hm : c ∈ l := by
        rw [hd]
        exact List.mem_append.mpr (Or.inr List.mem_cons_self)
      obtain ⟨k1, k2, k3⟩ := hr _ _ hc
      have k1 : s (526 + 3 * done.length) = nI c.1 := k1
      have k2 : s (526 + 3 * done.length + 1) = nI c.2.1 := by rw [Nat.add_assoc]; exact k2
      have k3 : s (526 + 3 * done.length + 2) = nI c.2.2 := by rw [Nat.add_assoc]; exact k3
      have hco := hok c hm
      have hn : done.length < 40 := by omega
      have hd2 : l = (done ++ [c]) ++ rest := by rw [hd, List.append_assoc]; rfl
      have hln : (done ++ [c]).length = done.length + 1 := by rw [List.length_append]; rfl
      have NX : ∀ st' S2 x4 n, n = st'.length → jgSp (jgLf s e i) c st = st' → jgP rest st'.length → st'.length ≤ done.length + 1 → jgSk (S2.1 90 0) st' → jaFr [90] [] S1 S2 → jc_M_isSaid_12 D kk (nI i) (nI n) (nI done.length) x4 (jaU σ 20 S2) := by
        rintro st' S2 x4 n rfl e1 e2 e3 e4 e5
        have := ih (done ++ [c]) st' S2 (some (.inl x4)) hd2 e2 (by rw [hln]; exact e3) e4 (f.trans e5) (fun b hb => h b (by rw [jgEv, e1]; exact hb))
        rw [hln] at this
        apply jb_M_isSaid_12
        rw [nI_add]
        exact this
      apply jb_M_isSaid_1
      rcases hp with ⟨w1, w2, w3⟩ | ⟨w1, w2, w3⟩ | ⟨w1, w3⟩
      · rcases st with _ | ⟨b, r⟩
        · exact absurd w2 (by simp)
        · obtain ⟨b0, br⟩ := jgSk_t hb
          have hsl : r.length < done.length := hsl
          rw [w1] at k1
          simp (disch := first | omega | decide) only [jaU_eq, jaU_U, nI_add, pk_mul, jaIx_nI, vp_inT, true_and, and_true, ↓jaO0, ↓jaO1, nI_z, nI_z2, nI_z3, nI_z4, nI_z5, nI_lt', nI_le', nI_eq', jaUI_at, jaPt_eq, jaPt_ne, jaUI_o, jaUI_2, jaUL_at, jaUL_o, jaUL_1, jaB_z, jaB_1, ↓jaB_01, Classical.not_not, and_self, true_or, or_true, nI_11, Nat.reduceEqDiff, Nat.reduceAdd, Nat.reduceMul, Nat.add_zero, Nat.zero_add, Nat.mul_zero, not_true_eq_false, not_false_eq_true, false_implies, true_implies, s1, h525, hl2, k1, List.length_cons, nI_sub, Nat.add_sub_cancel, b0]
          refine ⟨fun z => absurd z (by omega), fun _ => ⟨fun z => ?_, fun z => ?_⟩⟩
          · apply jb_M_isSaid_3
            simp (disch := first | omega | decide) only [jaU_eq, jaU_U, nI_add, pk_mul, jaIx_nI, vp_inT, true_and, and_true, ↓jaO0, ↓jaO1, nI_z, nI_z2, nI_z3, nI_z4, nI_z5, nI_lt', nI_le', nI_eq', jaUI_at, jaPt_eq, jaPt_ne, jaUI_o, jaUI_2, jaUL_at, jaUL_o, jaUL_1, jaB_z, jaB_1, ↓jaB_01, Classical.not_not, and_self, true_or, or_true, nI_11, Nat.reduceEqDiff, Nat.reduceAdd, Nat.reduceMul, Nat.add_zero, Nat.zero_add, Nat.mul_zero, not_true_eq_false, not_false_eq_true, false_implies, true_implies]
            exact NX ((¬ b) :: r) _ _ _ rfl (jgSp_n w1) w3 (by rw [List.length_cons]; omega) (by rw [jaUI_at]; exact jgSk_u br (by rw [jaB_f (by exact fun y => y z)])) (jaFr.rfl.ui (by decide) (by decide))
          · apply jb_M_isSaid_3
            simp (disch := first | omega | decide) only [jaU_eq, jaU_U, nI_add, pk_mul, jaIx_nI, vp_inT, true_and, and_true, ↓jaO0, ↓jaO1, nI_z, nI_z2, nI_z3, nI_z4, nI_z5, nI_lt', nI_le', nI_eq', jaUI_at, jaPt_eq, jaPt_ne, jaUI_o, jaUI_2, jaUL_at, jaUL_o, jaUL_1, jaB_z, jaB_1, ↓jaB_01, Classical.not_not, and_self, true_or, or_true, nI_11, Nat.reduceEqDiff, Nat.reduceAdd, Nat.reduceMul, Nat.add_zero, Nat.zero_add, Nat.mul_zero, not_true_eq_false, not_false_eq_true, false_implies, true_implies]
            exact NX ((¬ b) :: r) _ _ _ rfl (jgSp_n w1) w3 (by rw [List.length_cons]; omega) (by rw [jaUI_at]; exact jgSk_u br (by rw [jaB_t z])) (jaFr.rfl.ui (by decide) (by decide))
      · rcases st with _ | ⟨b, r⟩
        · exact absurd w2 (by simp)
        · rcases r with _ | ⟨a, r⟩
          · exact absurd w2 (by simp)
          · obtain ⟨b0, br⟩ := jgSk_t hb
            obtain ⟨a0, ar⟩ := jgSk_t br
            have b0 : S1.1 90 0 (r.length + 1) = jaB b := b0
            have hsl : r.length + 1 < done.length := hsl
            have w3 : jgP rest (r.length + 1) := w3
            have Z10 : ∀ (v : Nat) (q : Prop), v ≤ 1 → nI v = jaB q → jgSp (jgLf s e i) c (b :: a :: r) = q :: r → jc_M_isSaid_10 D kk (nI i) (nI (r.length + 1)) (nI done.length) (nI (526 + 3 * done.length)) (nI r.length) (nI v) (jaU σ 20 S1) := by
              intro v q hv hq hsp
              apply jb_M_isSaid_10
              have hv01 : (nI v = 0 ∨ nI v = 1) := by
                rcases Nat.le_one_iff_eq_zero_or_eq_one.mp hv with z | z
                · rw [z]; exact Or.inl rfl
                · rw [z]; exact Or.inr rfl
              refine ⟨vp_in_nI (by omega) (by decide), hv01, ?_⟩
              simp (disch := first | omega | decide) only [jaU_eq, jaU_U, nI_add, pk_mul, jaIx_nI, vp_inT, true_and, and_true, ↓jaO0, ↓jaO1, nI_z, nI_z2, nI_z3, nI_z4, nI_z5, nI_lt', nI_le', nI_eq', jaUI_at, jaPt_eq, jaPt_ne, jaUI_o, jaUI_2, jaUL_at, jaUL_o, jaUL_1, jaB_z, jaB_1, ↓jaB_01, Classical.not_not, and_self, true_or, or_true, nI_11, Nat.reduceEqDiff, Nat.reduceAdd, Nat.reduceMul, Nat.add_zero, Nat.zero_add, Nat.mul_zero, not_true_eq_false, not_false_eq_true, false_implies, true_implies]
              exact NX (q :: r) _ _ _ rfl hsp w3 (by rw [List.length_cons]; omega) (by rw [jaUI_at]; exact jgSk_u ar hq) (jaFr.rfl.ui (by decide) (by decide))
            have Z6 : ∀ q : Prop, ¬ q → jgSp (jgLf s e i) c (b :: a :: r) = q :: r → jc_M_isSaid_6 D kk (nI i) (nI (r.length + 1)) (nI done.length) (nI (526 + 3 * done.length)) (nI r.length) (jaU σ 20 S1) := by
              intro q hq hsp
              apply jb_M_isSaid_6
              exact Z10 0 q (by decide) (by rw [jaB_f hq]) hsp
            have Z8 : ∀ q : Prop, q → jgSp (jgLf s e i) c (b :: a :: r) = q :: r → jc_M_isSaid_8 D kk (nI i) (nI (r.length + 1)) (nI done.length) (nI (526 + 3 * done.length)) (nI r.length) (jaU σ 20 S1) := by
              intro q hq hsp
              apply jb_M_isSaid_8
              exact Z10 1 q (by decide) (by rw [jaB_t hq]) hsp
            have Z5 : jc_M_isSaid_5 D kk (nI i) (nI (r.length + 1 + 1)) (nI done.length) (nI (526 + 3 * done.length)) (jaU σ 20 S1) := by
              apply jb_M_isSaid_5
              rw [nI_dec]
              rcases w1 with w1 | w1
              · rw [w1] at k1
                simp (disch := first | omega | decide) only [jaU_eq, jaU_U, nI_add, pk_mul, jaIx_nI, vp_inT, true_and, and_true, ↓jaO0, ↓jaO1, nI_z, nI_z2, nI_z3, nI_z4, nI_z5, nI_lt', nI_le', nI_eq', jaUI_at, jaPt_eq, jaPt_ne, jaUI_o, jaUI_2, jaUL_at, jaUL_o, jaUL_1, jaB_z, jaB_1, ↓jaB_01, Classical.not_not, and_self, true_or, or_true, nI_11, Nat.reduceEqDiff, Nat.reduceAdd, Nat.reduceMul, Nat.add_zero, Nat.zero_add, Nat.mul_zero, not_true_eq_false, not_false_eq_true, false_implies, true_implies, s1, k1, nI_sub, Nat.add_sub_cancel, a0, b0]
                refine ⟨fun z => Z6 (a ∧ b) (fun y => z y.1) (jgSp_a w1), fun z => ⟨fun z2 => Z6 (a ∧ b) (fun y => z2 y.2) (jgSp_a w1), fun z2 => Z10 1 (a ∧ b) (by decide) (by rw [jaB_t ⟨z, z2⟩]) (jgSp_a w1)⟩⟩
              · rw [w1] at k1
                simp (disch := first | omega | decide) only [jaU_eq, jaU_U, nI_add, pk_mul, jaIx_nI, vp_inT, true_and, and_true, ↓jaO0, ↓jaO1, nI_z, nI_z2, nI_z3, nI_z4, nI_z5, nI_lt', nI_le', nI_eq', jaUI_at, jaPt_eq, jaPt_ne, jaUI_o, jaUI_2, jaUL_at, jaUL_o, jaUL_1, jaB_z, jaB_1, ↓jaB_01, Classical.not_not, and_self, true_or, or_true, nI_11, Nat.reduceEqDiff, Nat.reduceAdd, Nat.reduceMul, Nat.add_zero, Nat.zero_add, Nat.mul_zero, not_true_eq_false, not_false_eq_true, false_implies, true_implies, s1, k1, nI_sub, Nat.add_sub_cancel, a0, b0]
                refine ⟨fun z => Z8 (a ∨ b) (Or.inl z) (jgSp_o w1), fun z => ⟨fun z2 => Z10 0 (a ∨ b) (by decide) (by rw [jaB_f (fun y => y.elim z z2)]) (jgSp_o w1), fun z2 => Z8 (a ∨ b) (Or.inr z2) (jgSp_o w1)⟩⟩
            rcases w1 with w1 | w1
            · rw [w1] at k1
              simp (disch := first | omega | decide) only [jaU_eq, jaU_U, nI_add, pk_mul, jaIx_nI, vp_inT, true_and, and_true, ↓jaO0, ↓jaO1, nI_z, nI_z2, nI_z3, nI_z4, nI_z5, nI_lt', nI_le', nI_eq', jaUI_at, jaPt_eq, jaPt_ne, jaUI_o, jaUI_2, jaUL_at, jaUL_o, jaUL_1, jaB_z, jaB_1, ↓jaB_01, Classical.not_not, and_self, true_or, or_true, nI_11, Nat.reduceEqDiff, Nat.reduceAdd, Nat.reduceMul, Nat.add_zero, Nat.zero_add, Nat.mul_zero, not_true_eq_false, not_false_eq_true, false_implies, true_implies, s1, h525, hl2, k1, List.length_cons]
              exact ⟨fun z => absurd z (by omega), fun _ => Z5⟩
            · rw [w1] at k1
              simp (disch := first | omega | decide) only [jaU_eq, jaU_U, nI_add, pk_mul, jaIx_nI, vp_inT, true_and, and_true, ↓jaO0, ↓jaO1, nI_z, nI_z2, nI_z3, nI_z4, nI_z5, nI_lt', nI_le', nI_eq', jaUI_at, jaPt_eq, jaPt_ne, jaUI_o, jaUI_2, jaUL_at, jaUL_o, jaUL_1, jaB_z, jaB_1, ↓jaB_01, Classical.not_not, and_self, true_or, or_true, nI_11, Nat.reduceEqDiff, Nat.reduceAdd, Nat.reduceMul, Nat.add_zero, Nat.zero_add, Nat.mul_zero, not_true_eq_false, not_false_eq_true, false_implies, true_implies, s1, h525, hl2, k1, List.length_cons]
              exact ⟨fun z => absurd z (by omega), fun _ => Z5⟩
      · have e1 : S1.1 76 0 = e := by rw [f.s 76 (by decide) (by decide)]; exact he
        simp (disch := first | omega | decide) only [jaU_eq, jaU_U, nI_add, pk_mul, jaIx_nI, vp_inT, true_and, and_true, ↓jaO0, ↓jaO1, nI_z, nI_z2, nI_z3, nI_z4, nI_z5, nI_lt', nI_le', nI_eq', jaUI_at, jaPt_eq, jaPt_ne, jaUI_o, jaUI_2, jaUL_at, jaUL_o, jaUL_1, jaB_z, jaB_1, ↓jaB_01, Classical.not_not, and_self, true_or, or_true, nI_11, Nat.reduceEqDiff, Nat.reduceAdd, Nat.reduceMul, Nat.add_zero, Nat.zero_add, Nat.mul_zero, not_true_eq_false, not_false_eq_true, false_implies, true_implies, s1, h525, hl2, k1, k2, k3]
        refine ⟨fun z => absurd z (by omega), fun _ => ⟨fun _ => ⟨fun z => absurd z (by omega), fun _ => ⟨fun _ => ?_, fun z => absurd z (by omega)⟩⟩, fun z => absurd z (by omega)⟩⟩
        refine sp_M_isLeaf (by omega) s1 e1 hW hco w1 hi ?_
        simp (disch := first | omega | decide) only [jaU_eq, jaU_U, nI_add, pk_mul, jaIx_nI, vp_inT, true_and, and_true, ↓jaO0, ↓jaO1, nI_z, nI_z2, nI_z3, nI_z4, nI_z5, nI_lt', nI_le', nI_eq', jaUI_at, jaPt_eq, jaPt_ne, jaUI_o, jaUI_2, jaUL_at, jaUL_o, jaUL_1, jaB_z, jaB_1, ↓jaB_01, Classical.not_not, and_self, true_or, or_true, nI_11, Nat.reduceEqDiff, Nat.reduceAdd, Nat.reduceMul, Nat.add_zero, Nat.zero_add, Nat.mul_zero, not_true_eq_false, not_false_eq_true, false_implies, true_implies]
        exact NX (jgLf s e i c :: st) _ _ _ rfl (jgSp_l w1) w3 (by rw [List.length_cons]; omega) (by rw [jaUI_at]; exact jgSk_p hb) (jaFr.rfl.ui (by decide) (by decide))
  apply js_M_isSaid
  exact L l [] [] S none rfl hP (Nat.le_refl _) (fun j b hj => by cases hj) jaFr.rfl h
/-- the answer of said -/
noncomputable def jgAn (p : Nat → Prop) (t : Int32) : Nat → Nat → Nat → Int32
  | 0, _, n => jaIf1 (t = -1) (nI n) (-1)
  | m + 1, j, n => jaIf1 (p j) (jaIf1 (nI n = t) (nI j) (jgAn p t m (j + 1) (n + 1))) (jgAn p t m (j + 1) n)
def jgIs (s e : jvA) (l : List jbY) (i : Nat) : Prop := ∃ b, jgEv (jgLf s e i) l [] = [b] ∧ b
theorem jgIs_b {s e : jvA} {l : List jbY} {i : Nat} {b : Prop} (h : jgEv (jgLf s e i) l [] = [b]) : jaB b = jaB (jgIs s e l i) := jaB_c ⟨fun q => ⟨b, h, q⟩, fun ⟨b', h1, h2⟩ => by
  rw [h] at h1
  cases h1
  exact h2⟩
/-- the SENTENCE that is told -/
def jSn (T : jaS) (s : jvA) : Prop := ((T.1 20 0 0 = nI 0 ∧ T.1 20 0 2 = nI 0) ∧ s 525 = nI 0) ∨ (∃ l : List jbY, 1 ≤ l.length ∧ l.length ≤ 39 ∧ s 525 = nI l.length ∧ T.1 20 0 0 = nI 1 ∧ jgT0 T l ∧ jgRow (fun j => s (526 + j)) l ∧ (∀ c, c ∈ l → jgOk c) ∧ jgP l 0)
def jSl (s : jvA) (l : List jbY) : Prop := s 525 = nI l.length ∧ jgRow (fun j => s (526 + j)) l ∧ l.length ≤ 39 ∧ (∀ c, c ∈ l → jgOk c) ∧ jgP l 0
theorem sp_M_said {D : Nat} (hD : 8 ≤ D) {kk : Int32 → jaT → Prop} {σ : jaT} {S : jaS} {s d e : jvA} {x : Int32} {Pl : List jbY → Prop} (hs : S.1 72 0 = s) (he : S.1 76 0 = e) (hW : jW s d e)
    (h0 : (s 525 = nI 0 ∨ ¬ (-1 : Int32) ≤ x) → ∀ S', jaFr [90] [0] S S' → kk (-1) (jaU σ 20 S'))
    (h : ∀ l, 1 ≤ l.length → jSl s l → Pl l → (-1 : Int32) ≤ x → (∀ S', jaFr [90] [0] S S' → kk (jgAn (jgIs s e l) x (jz s 34) 0 0) (jaU σ 20 S')))
    (hsl : s 525 = nI 0 ∨ ∃ l, 1 ≤ l.length ∧ jSl s l ∧ Pl l) :
    jaDe D jy_M_said [jaMo, .inl x] (jaU σ 20 S) (jaKi kk) := by
  have hO := hW.o.ord
  obtain ⟨D, rfl, hD⟩ := jaSuc hD
  have f0 : jaFr [90] [0] S (jaUI S 70 0 0 (nI 0)) := jaFr.rfl.uf (by decide)
  have s0 : (jaUI S 70 0 0 (nI 0)).1 72 0 = s := by rw [jaUI_o (by decide)]; exact hs
  apply js_M_said
  simp only [jaU_eq, jaU_U]
  simp (disch := first | omega | decide) only [jaU_eq, jaU_U, nI_add, pk_mul, jaIx_nI, vp_inT, true_and, and_true, ↓jaO0, ↓jaO1, nI_z, nI_z2, nI_z3, nI_z4, nI_z5, nI_lt', nI_le', nI_eq', jaUI_at, jaPt_eq, jaPt_ne, jaUI_o, jaUI_2, jaUL_at, jaUL_o, jaUL_1, jaB_z, jaB_1, ↓jaB_01, Classical.not_not, and_self, true_or, or_true, nI_11, Nat.reduceEqDiff, Nat.reduceAdd, Nat.reduceMul, Nat.add_zero, Nat.zero_add, Nat.mul_zero, not_true_eq_false, not_false_eq_true, false_implies, true_implies, hs]
  rcases hsl with q | ⟨l, l1, hl⟩
  · rw [q]
    exact ⟨fun _ => h0 (Or.inl q) _ f0, fun z => absurd rfl z⟩
  · obtain ⟨hl, hPl⟩ := hl
    have e525 := hl.1
    have l39 := hl.2.2.1
    rw [e525]
    refine ⟨fun z => absurd z (by rw [nI_z (by omega)]; omega), fun _ => ⟨fun qx => ?_, fun qx => h0 (Or.inr qx) _ f0⟩⟩
    have h := h l l1 hl hPl qx
    have L : ∀ m j n S1, j + m = jz s 34 → n ≤ j → jaFr [90] [0] S S1 → (∀ S', jaFr [90] [0] S S' → kk (jgAn (jgIs s e l) x m j n) (jaU σ 20 S')) → jc_M_said_3 D kk x (nI n) (nI j) (jaU σ 20 S1) := by
      intro m
      induction m with
      | zero =>
        intro j n S1 hj hn f h
        have s1 : S1.1 72 0 = s := by rw [f.s 72 (by decide) (by decide)]; exact hs
        have hk := h S1 f
        rw [jgAn] at hk
        apply jb_M_said_3
        simp (disch := first | omega | decide) only [jaU_eq, jaU_U, nI_add, pk_mul, jaIx_nI, vp_inT, true_and, and_true, ↓jaO0, ↓jaO1, nI_z, nI_z2, nI_z3, nI_z4, nI_z5, nI_lt', nI_le', nI_eq', jaUI_at, jaPt_eq, jaPt_ne, jaUI_o, jaUI_2, jaUL_at, jaUL_o, jaUL_1, jaB_z, jaB_1, ↓jaB_01, Classical.not_not, and_self, true_or, or_true, nI_11, Nat.reduceEqDiff, Nat.reduceAdd, Nat.reduceMul, Nat.add_zero, Nat.zero_add, Nat.mul_zero, not_true_eq_false, not_false_eq_true, false_implies, true_implies, s1]
        rw [hO.1]
        simp (disch := first | omega | decide) only [jaU_eq, jaU_U, nI_add, pk_mul, jaIx_nI, vp_inT, true_and, and_true, ↓jaO0, ↓jaO1, nI_z, nI_z2, nI_z3, nI_z4, nI_z5, nI_lt', nI_le', nI_eq', jaUI_at, jaPt_eq, jaPt_ne, jaUI_o, jaUI_2, jaUL_at, jaUL_o, jaUL_1, jaB_z, jaB_1, ↓jaB_01, Classical.not_not, and_self, true_or, or_true, nI_11, Nat.reduceEqDiff, Nat.reduceAdd, Nat.reduceMul, Nat.add_zero, Nat.zero_add, Nat.mul_zero, not_true_eq_false, not_false_eq_true, false_implies, true_implies]
        refine ⟨fun _ => ?_, fun q => absurd (by omega) q⟩
        refine ⟨fun z => ?_, fun z => ?_⟩
        · rwa [jaIf1_f z] at hk
        · rwa [jaIf1_t z] at hk
      | succ m ih =>
        intro j n S1 hj hn f h
        have s1 : S1.1 72 0 = s := by rw [f.s 72 (by decide) (by decide)]; exact hs
        have e1 : S1.1 76 0 = e := by rw [f.s 76 (by decide) (by decide)]; exact he
        have hO2 := hO.2
        rw [jgAn] at h
        apply jb_M_said_3
        simp (disch := first | omega | decide) only [jaU_eq, jaU_U, nI_add, pk_mul, jaIx_nI, vp_inT, true_and, and_true, ↓jaO0, ↓jaO1, nI_z, nI_z2, nI_z3, nI_z4, nI_z5, nI_lt', nI_le', nI_eq', jaUI_at, jaPt_eq, jaPt_ne, jaUI_o, jaUI_2, jaUL_at, jaUL_o, jaUL_1, jaB_z, jaB_1, ↓jaB_01, Classical.not_not, and_self, true_or, or_true, nI_11, Nat.reduceEqDiff, Nat.reduceAdd, Nat.reduceMul, Nat.add_zero, Nat.zero_add, Nat.mul_zero, not_true_eq_false, not_false_eq_true, false_implies, true_implies, s1]
        rw [hO.1]
        simp (disch := first | omega | decide) only [jaU_eq, jaU_U, nI_add, pk_mul, jaIx_nI, vp_inT, true_and, and_true, ↓jaO0, ↓jaO1, nI_z, nI_z2, nI_z3, nI_z4, nI_z5, nI_lt', nI_le', nI_eq', jaUI_at, jaPt_eq, jaPt_ne, jaUI_o, jaUI_2, jaUL_at, jaUL_o, jaUL_1, jaB_z, jaB_1, ↓jaB_01, Classical.not_not, and_self, true_or, or_true, nI_11, Nat.reduceEqDiff, Nat.reduceAdd, Nat.reduceMul, Nat.add_zero, Nat.zero_add, Nat.mul_zero, not_true_eq_false, not_false_eq_true, false_implies, true_implies]
        refine ⟨fun q => absurd q (by omega), fun _ => ?_⟩
        refine sp_M_isSaid (by omega) s1 e1 hW hl.1 hl.2.1 hl.2.2.1 hl.2.2.2.1 hl.2.2.2.2 (by omega) (fun b hb S2 f2 => ?_)
        rw [jgIs_b hb]
        have F2 : jaFr [90] [0] S S2 := f.trans (f2.mono (by decide) (by decide))
        simp (disch := first | omega | decide) only [jaU_eq, jaU_U, nI_add, pk_mul, jaIx_nI, vp_inT, true_and, and_true, ↓jaO0, ↓jaO1, nI_z, nI_z2, nI_z3, nI_z4, nI_z5, nI_lt', nI_le', nI_eq', jaUI_at, jaPt_eq, jaPt_ne, jaUI_o, jaUI_2, jaUL_at, jaUL_o, jaUL_1, jaB_z, jaB_1, ↓jaB_01, Classical.not_not, and_self, true_or, or_true, nI_11, Nat.reduceEqDiff, Nat.reduceAdd, Nat.reduceMul, Nat.add_zero, Nat.zero_add, Nat.mul_zero, not_true_eq_false, not_false_eq_true, false_implies, true_implies]
        refine ⟨fun z => ⟨fun z2 => ?_, fun z2 => ?_⟩, fun z => ?_⟩
        · rw [jaIf1_t z, jaIf1_f z2] at h
          exact ih (j + 1) (n + 1) S2 (by omega) (by omega) F2 h
        · rw [jaIf1_t z, jaIf1_t z2] at h
          exact h S2 F2
        · rw [jaIf1_f z] at h
          exact ih (j + 1) n S2 (by omega) (by omega) F2 h
    exact L (jz s 34) 0 0 _ (by omega) (by omega) f0 h
theorem sp_A_said {D : Nat} (hD : 6 ≤ D) {kk : Int32 → jaT → Prop} {τ : jaT} {s d e : jvA} {x : Int32} {w : Nat} (hw : w ≤ 1) (h11 : (τ 0).1 0 0 11 = nI w) (hR : jR (τ 1) (s, d, e)) (hW : jW s d e) (hS : jSn (τ (14 + w)) s)
    (h0 : (s 525 = nI 0 ∨ ¬ (-1 : Int32) ≤ x) → kk (-1) τ)
    (h : ∀ l, 1 ≤ l.length → jSl s l → (-1 : Int32) ≤ x → kk (jgAn (jgIs s e l) x (jz s 34) 0 0) τ) :
    jaDe D jy_A_said [.inr (.inr (0, 0, 0)), .inl x] τ (jaKi kk) := by
  have hO := hW.o.ord
  have o60 : (τ 1).1 60 0 1 = nI (jz s 34) := hR.o.2.1.trans hO.1
  obtain ⟨D, rfl, hD⟩ := jaSuc hD
  apply js_A_said
  simp (disch := first | omega | decide) only [jaU_eq, jaU_U, nI_add, pk_mul, jaIx_nI, vp_inT, true_and, and_true, ↓jaO0, ↓jaO1, nI_z, nI_z2, nI_z3, nI_z4, nI_z5, nI_lt', nI_le', nI_eq', jaUI_at, jaPt_eq, jaPt_ne, jaUI_o, jaUI_2, jaUL_at, jaUL_o, jaUL_1, jaB_z, jaB_1, ↓jaB_01, Classical.not_not, and_self, true_or, or_true, nI_11, Nat.reduceEqDiff, Nat.reduceAdd, Nat.reduceMul, Nat.add_zero, Nat.zero_add, Nat.mul_zero, not_true_eq_false, not_false_eq_true, false_implies, true_implies, h11]
  rcases hS with ⟨t0, e0⟩ | ⟨l, l1, l39, e525, t1, tT, tr, tok, tP⟩
  · rw [t0.1]
    exact ⟨fun _ => h0 (Or.inl e0), fun z => absurd rfl z⟩
  · rw [t1]
    refine ⟨fun z => absurd z (by decide), fun _ => ⟨fun qx => ?_, fun qx => h0 (Or.inr qx)⟩⟩
    have h := h l l1 ⟨e525, tr, l39, tok, tP⟩ qx
    have is : jaDe D jy_St_readyPlaces [jcSt 1, .inl (nI 0)] (jaU τ 1 (τ 1)) (jaKl fun r2 σ1 => jc_A_said_3 D kk x (14 + w) r2 (nI 0) (nI 0) σ1) := by
      refine sp_St_readyPlaces (by omega) hR hW (hW.w.2.2.1.2.1) (fun P hP => ?_)
      rw [jaU_self]
      have L : ∀ m j n, j + m = jz s 34 → n ≤ j → kk (jgAn (jgIs s e l) x m j n) τ → jc_A_said_3 D kk x (14 + w) P (nI n) (nI j) τ := by
        intro m
        induction m with
        | zero =>
          intro j n hj hn hk
          rw [jgAn] at hk
          apply jb_A_said_3
          simp (disch := first | omega | decide) only [jaU_eq, jaU_U, nI_add, pk_mul, jaIx_nI, vp_inT, true_and, and_true, ↓jaO0, ↓jaO1, nI_z, nI_z2, nI_z3, nI_z4, nI_z5, nI_lt', nI_le', nI_eq', jaUI_at, jaPt_eq, jaPt_ne, jaUI_o, jaUI_2, jaUL_at, jaUL_o, jaUL_1, jaB_z, jaB_1, ↓jaB_01, Classical.not_not, and_self, true_or, or_true, nI_11, Nat.reduceEqDiff, Nat.reduceAdd, Nat.reduceMul, Nat.add_zero, Nat.zero_add, Nat.mul_zero, not_true_eq_false, not_false_eq_true, false_implies, true_implies, o60]
          refine ⟨fun _ => ?_, fun q => absurd (by omega) q⟩
          refine ⟨fun z => ?_, fun z => ?_⟩
          · rwa [jaIf1_f z] at hk
          · rwa [jaIf1_t z] at hk
        | succ m ih =>
          intro j n hj hn hk
          have hO2 := hO.2
          have hb := hP j (by omega)
          have hbit := jaL_bit (P := P) (j := j) (by omega)
          rw [jgAn] at hk
          have C : ∀ v : Int32, v = jaB (jvRdy s e 0 j) → jaDe D jy_Sn_holds [jcSn (14 + w), jcSt 1, .inl (nI j), .inl v] τ (jaKi fun r2 σ1 => (r2 = 0 → jc_A_said_3 D kk x (14 + w) P (nI n) (nI (j + 1)) σ1) ∧ (¬ r2 = 0 → (¬ nI n = x → jc_A_said_3 D kk x (14 + w) P (nI (n + 1)) (nI (j + 1)) σ1) ∧ (nI n = x → kk (nI j) σ1))) := by
            rintro v rfl
            refine sp_Sn_holds (by omega) tT l39 tok tP hR hW (by omega) (fun b hbe => ?_)
            rw [jgIs_b hbe]
            simp (disch := first | omega | decide) only [jaU_eq, jaU_U, nI_add, pk_mul, jaIx_nI, vp_inT, true_and, and_true, ↓jaO0, ↓jaO1, nI_z, nI_z2, nI_z3, nI_z4, nI_z5, nI_lt', nI_le', nI_eq', jaUI_at, jaPt_eq, jaPt_ne, jaUI_o, jaUI_2, jaUL_at, jaUL_o, jaUL_1, jaB_z, jaB_1, ↓jaB_01, Classical.not_not, and_self, true_or, or_true, nI_11, Nat.reduceEqDiff, Nat.reduceAdd, Nat.reduceMul, Nat.add_zero, Nat.zero_add, Nat.mul_zero, not_true_eq_false, not_false_eq_true, false_implies, true_implies]
            refine ⟨fun z => ?_, fun z => ⟨fun z2 => ?_, fun z2 => ?_⟩⟩
            · rw [jaIf1_f z] at hk
              exact ih (j + 1) n (by omega) (by omega) hk
            · rw [jaIf1_t z, jaIf1_f z2] at hk
              exact ih (j + 1) (n + 1) (by omega) (by omega) hk
            · rw [jaIf1_t z, jaIf1_t z2] at hk
              exact hk
          apply jb_A_said_3
          rw [hbit]
          simp (disch := first | omega | decide) only [jaU_eq, jaU_U, nI_add, pk_mul, jaIx_nI, vp_inT, true_and, and_true, ↓jaO0, ↓jaO1, nI_z, nI_z2, nI_z3, nI_z4, nI_z5, nI_lt', nI_le', nI_eq', jaUI_at, jaPt_eq, jaPt_ne, jaUI_o, jaUI_2, jaUL_at, jaUL_o, jaUL_1, jaB_z, jaB_1, ↓jaB_01, Classical.not_not, and_self, true_or, or_true, nI_11, Nat.reduceEqDiff, Nat.reduceAdd, Nat.reduceMul, Nat.add_zero, Nat.zero_add, Nat.mul_zero, not_true_eq_false, not_false_eq_true, false_implies, true_implies, o60]
          refine ⟨fun q => absurd q (by omega), fun _ => ?_⟩
          refine ⟨fun z => C _ (by rw [jaB_f (fun y => z (hb.mpr ⟨by omega, y⟩))]), fun z => C _ (by rw [jaB_t (hb.mp z).2])⟩
      exact L (jz s 34) 0 0 (by omega) (by omega) h
    rw [jaU_self] at is
    (try simp (disch := first | omega | decide) only [jaU_eq, jaU_U, nI_add, pk_mul, jaIx_nI, vp_inT, true_and, and_true, ↓jaO0, ↓jaO1, nI_z, nI_z2, nI_z3, nI_z4, nI_z5, nI_lt', nI_le', nI_eq', jaUI_at, jaPt_eq, jaPt_ne, jaUI_o, jaUI_2, jaUL_at, jaUL_o, jaUL_1, jaB_z, jaB_1, ↓jaB_01, Classical.not_not, and_self, true_or, or_true, nI_11, Nat.reduceEqDiff, Nat.reduceAdd, Nat.reduceMul, Nat.add_zero, Nat.zero_add, Nat.mul_zero, not_true_eq_false, not_false_eq_true, false_implies, true_implies])
    exact is
end
