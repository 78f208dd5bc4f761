section
/-! the reference: a SENTENCE's codes, its stack -/
def jgSt (S : jaS) (stk : List Nat) : Prop := S.1 70 0 47 = nI stk.length ∧ (∀ (j : Nat) (c : Nat), stk.reverse[j]? = some c → S.1 89 0 j = nI c) ∧ ∀ c, c ∈ stk → c < 100
def jgM (S : jaS) (l : List jbY) (o : Nat) (stk : List Nat) (d w : Nat) : Prop := S.1 70 0 45 = nI l.length ∧ jgRow (S.1 74 0) l ∧ S.1 70 0 46 = nI o ∧ jgSt S stk ∧ S.1 70 0 48 = nI d ∧ S.1 70 0 49 = nI w
abbrev jgG : List Nat := [45, 46, 47, 48, 49, 4, 14, 15, 16, 17, 18, 19, 20, 21]
theorem jgM.f {S S' : jaS} {l : List jbY} {o d w : Nat} {stk : List Nat} {A F : List Nat} (h : jgM S l o stk d w) (f : jaFr A F S S') (h74 : 74 ∉ A) (h89 : 89 ∉ A) (hF : ∀ j, j ∈ [45, 46, 47, 48, 49] → j ∉ F) : jgM S' l o stk d w := by
  unfold jgM jgSt
  rw [f.f 45 (hF 45 (by decide)), f.f 46 (hF 46 (by decide)), f.f 47 (hF 47 (by decide)), f.f 48 (hF 48 (by decide)), f.f 49 (hF 49 (by decide)), f.s 74 h74 (by decide), f.s 89 h89 (by decide)]
  exact h
def jgQ (c : Nat) : jbY := (c, 0, 0)
theorem jgSt.top {S : jaS} {c : Nat} {s : List Nat} (h : jgSt S (c :: s)) : S.1 70 0 47 = nI (s.length + 1) ∧ S.1 89 0 s.length = nI c ∧ c < 100 := by
  obtain ⟨a, b, e⟩ := h
  refine ⟨a, b s.length c ?_, e c List.mem_cons_self⟩
  rw [List.reverse_cons, List.getElem?_append_right (by rw [List.length_reverse]; exact Nat.le_refl _), List.length_reverse, Nat.sub_self]
  rfl
theorem jgSt.pop {S S' : jaS} {c : Nat} {s : List Nat} (h : jgSt S (c :: s)) (h47 : S'.1 70 0 47 = nI s.length) (h89 : S'.1 89 0 = S.1 89 0) : jgSt S' s := by
  obtain ⟨a, b, e⟩ := h
  refine ⟨h47, fun j q hq => ?_, fun q hq => e q (List.mem_cons_of_mem _ hq)⟩
  rw [h89]
  refine b j q ?_
  rw [List.reverse_cons]
  have hl : j < s.reverse.length := by
    rcases Nat.lt_or_ge j s.reverse.length with z | z
    · exact z
    · rw [List.getElem?_eq_none z] at hq
      cases hq
  rw [List.getElem?_append_left hl]
  exact hq
theorem jgSt.push {S S' : jaS} {c : Nat} {s : List Nat} (h : jgSt S s) (h47 : S'.1 70 0 47 = nI (s.length + 1)) (h89 : S'.1 89 0 = jaPt (S.1 89 0) s.length (nI c)) (hc : c < 100) : jgSt S' (c :: s) := by
  obtain ⟨a, b, e⟩ := h
  refine ⟨h47, fun j q hq => ?_, fun q hq => ?_⟩
  · rw [List.reverse_cons] at hq
    rw [h89]
    rcases jgAp hq with ⟨y, z⟩ | ⟨y, rfl⟩
    · rw [List.length_reverse] at y
      rw [jaPt_ne (by omega)]
      exact b j q z
    · rw [List.length_reverse] at y
      rw [y, jaPt_eq]
  · rcases List.mem_cons.mp hq with z | z
    · rw [z]; exact hc
    · exact e q z
theorem sp_M_code {D : Nat} (hD : 1 ≤ D) {kk : jaT → Prop} {σ : jaT} {S : jaS} {l : List jbY} {o d w a b c : Nat} {stk : List Nat} (hM : jgM S l o stk d w) (hl : l.length < 45) (h : ∀ S', jgM S' (l ++ [(a, b, c)]) o stk d w → jaFr [74] [45] S S' → kk (jaU σ 20 S')) : jaDe D jy_M_code [jaMo, .inl (nI a), .inl (nI b), .inl (nI c)] (jaU σ 20 S) (jaKv kk) := by
  obtain ⟨m45, mr, m46, ms, m48, m49⟩ := hM
  obtain ⟨D, rfl, hD⟩ := jaSuc hD
  apply js_M_code
  simp (disch := first | omega | decide) only [jaU_eq, jaU_U, nI_add, pk_mul, jaIx_nI, vp_inT, true_and, and_true, ↓jaO0, ↓jaO1, nI_z, nI_z2, nI_z3, nI_z4, nI_z5, nI_lt', nI_le', nI_eq', jaUI_at, jaPt_eq, jaPt_ne, jaUI_o, jaUI_2, jaUL_at, jaUL_o, jaUL_1, jaB_z, jaB_1, ↓jaB_01, Classical.not_not, and_self, true_or, or_true, nI_11, Nat.reduceEqDiff, Nat.reduceAdd, Nat.reduceMul, Nat.add_zero, Nat.zero_add, Nat.mul_zero, not_true_eq_false, not_false_eq_true, false_implies, true_implies, m45]
  have f : jaFr [74] [45] S (jaUI (jaUI (jaUI (jaUI S 74 0 (3 * l.length) (nI a)) 74 0 (3 * l.length + 1) (nI b)) 74 0 (3 * l.length + 2) (nI c)) 70 0 45 (nI (l.length + 1))) := (((jaFr.rfl.ui (by decide) (by decide)).ui (by decide) (by decide)).ui (by decide) (by decide)).uf (by decide)
  refine h _ ⟨?_, fun j y hj => ?_, ?_, ?_, ?_, ?_⟩ f
  · rw [List.length_append]
    simp (disch := first | omega | decide) only [jaU_eq, jaU_U, nI_add, pk_mul, jaIx_nI, vp_inT, true_and, and_true, ↓jaO0, ↓jaO1, nI_z, nI_z2, nI_z3, nI_z4, nI_z5, nI_lt', nI_le', nI_eq', jaUI_at, jaPt_eq, jaPt_ne, jaUI_o, jaUI_2, jaUL_at, jaUL_o, jaUL_1, jaB_z, jaB_1, ↓jaB_01, Classical.not_not, and_self, true_or, or_true, nI_11, Nat.reduceEqDiff, Nat.reduceAdd, Nat.reduceMul, Nat.add_zero, Nat.zero_add, Nat.mul_zero, not_true_eq_false, not_false_eq_true, false_implies, true_implies]
    rfl
  · rw [jaUI_o (by decide), jaUI_at, jaUI_at, jaUI_at]
    rcases jgAp hj with ⟨q, hj⟩ | ⟨q, rfl⟩
    · obtain ⟨r1, r2, r3⟩ := mr j y hj
      rw [jaPt_ne (by omega), jaPt_ne (by omega), jaPt_ne (by omega), jaPt_ne (by omega), jaPt_ne (by omega), jaPt_ne (by omega), jaPt_ne (by omega), jaPt_ne (by omega), jaPt_ne (by omega)]
      exact ⟨r1, r2, r3⟩
    · subst q
      rw [jaPt_ne (show 3 * l.length ≠ 3 * l.length + 2 by omega), jaPt_ne (show 3 * l.length ≠ 3 * l.length + 1 by omega), jaPt_eq, jaPt_ne (show 3 * l.length + 1 ≠ 3 * l.length + 2 by omega), jaPt_eq, jaPt_eq]
      exact ⟨rfl, rfl, rfl⟩
  · rw [f.f 46 (by decide)]; exact m46
  · unfold jgSt
    rw [f.f 47 (by decide), f.s 89 (by decide) (by decide)]
    exact ms
  · rw [f.f 48 (by decide)]; exact m48
  · rw [f.f 49 (by decide)]; exact m49
set_option maxHeartbeats 1000000 in
theorem sp_M_nots {D : Nat} (hD : 2 ≤ D) {kk : jaT → Prop} {σ : jaT} {S : jaS} {o d w : Nat} {s : List Nat} (hs : ∀ c t, s = c :: t → c ≠ 20) (hd : d < 1000) : ∀ (zs : List Nat) (l : List jbY) (S1 : jaS), (∀ c, c ∈ zs → c = 20) → jgM S1 l o (zs ++ s) (d + zs.length) w → l.length + zs.length ≤ 44 → (zs ++ s).length ≤ 44 → jaFr [74] [45, 47, 48] S S1 → (∀ S', jgM S' (l ++ zs.map jgQ) o s d w → jaFr [74] [45, 47, 48] S S' → kk (jaU σ 20 S')) → jaDe D jy_M_nots [jaMo] (jaU σ 20 S1) (jaKv kk) := by
  obtain ⟨D, rfl, hD⟩ := jaSuc hD
  have L : ∀ (zs : List Nat) (l : List jbY) (S1 : jaS), (∀ c, c ∈ zs → c = 20) → jgM S1 l o (zs ++ s) (d + zs.length) w → l.length + zs.length ≤ 44 → (zs ++ s).length ≤ 44 → jaFr [74] [45, 47, 48] S S1 → (∀ S', jgM S' (l ++ zs.map jgQ) o s d w → jaFr [74] [45, 47, 48] S S' → kk (jaU σ 20 S')) → jc_M_nots_1 D kk (jaU σ 20 S1) := by
    intro zs
    induction zs with
    | nil =>
      intro l S1 _ hM _ h44 f h
      have hM : jgM S1 l o s d w := hM
      have hk := h S1 (by rw [List.map_nil, List.append_nil]; exact hM) f
      apply jb_M_nots_1
      rcases hss : s with _ | ⟨c, t⟩
      · have e47 : S1.1 70 0 47 = nI 0 := by
          have := hM.2.2.2.1.1
          rw [hss] at this
          exact this
        simp (disch := first | omega | decide) only [jaU_eq, jaU_U, nI_add, pk_mul, jaIx_nI, vp_inT, true_and, and_true, ↓jaO0, ↓jaO1, nI_z, nI_z2, nI_z3, nI_z4, nI_z5, nI_lt', nI_le', nI_eq', jaUI_at, jaPt_eq, jaPt_ne, jaUI_o, jaUI_2, jaUL_at, jaUL_o, jaUL_1, jaB_z, jaB_1, ↓jaB_01, Classical.not_not, and_self, true_or, or_true, nI_11, Nat.reduceEqDiff, Nat.reduceAdd, Nat.reduceMul, Nat.add_zero, Nat.zero_add, Nat.mul_zero, not_true_eq_false, not_false_eq_true, false_implies, true_implies, e47]
        exact hk
      · have ht := hM.2.2.2.1
        rw [hss] at ht
        obtain ⟨t1, t2, t3⟩ := ht.top
        have hc := hs c t hss
        have hn : t.length < 44 := by
          rw [List.nil_append, hss, List.length_cons] at h44
          omega
        simp (disch := first | omega | decide) only [jaU_eq, jaU_U, nI_add, pk_mul, jaIx_nI, vp_inT, true_and, and_true, ↓jaO0, ↓jaO1, nI_z, nI_z2, nI_z3, nI_z4, nI_z5, nI_lt', nI_le', nI_eq', jaUI_at, jaPt_eq, jaPt_ne, jaUI_o, jaUI_2, jaUL_at, jaUL_o, jaUL_1, jaB_z, jaB_1, ↓jaB_01, Classical.not_not, and_self, true_or, or_true, nI_11, Nat.reduceEqDiff, Nat.reduceAdd, Nat.reduceMul, Nat.add_zero, Nat.zero_add, Nat.mul_zero, not_true_eq_false, not_false_eq_true, false_implies, true_implies, t1, nI_sub, Nat.add_sub_cancel, t2]
        exact ⟨fun _ => hk, fun z => absurd z hc⟩
    | cons c zs ih =>
      intro l S1 hz hM hl h44 f h
      have hc : c = 20 := hz c List.mem_cons_self
      subst hc
      have hM : jgM S1 l o (20 :: (zs ++ s)) (d + (zs.length + 1)) w := hM
      obtain ⟨m45, mr, m46, ms, m48, m49⟩ := hM
      obtain ⟨t1, t2, t3⟩ := ms.top
      have hl' : l.length + (zs.length + 1) ≤ 44 := hl
      have h44' : (zs ++ s).length + 1 ≤ 44 := h44
      apply jb_M_nots_1
      simp (disch := first | omega | decide) only [jaU_eq, jaU_U, nI_add, pk_mul, jaIx_nI, vp_inT, true_and, and_true, ↓jaO0, ↓jaO1, nI_z, nI_z2, nI_z3, nI_z4, nI_z5, nI_lt', nI_le', nI_eq', jaUI_at, jaPt_eq, jaPt_ne, jaUI_o, jaUI_2, jaUL_at, jaUL_o, jaUL_1, jaB_z, jaB_1, ↓jaB_01, Classical.not_not, and_self, true_or, or_true, nI_11, Nat.reduceEqDiff, Nat.reduceAdd, Nat.reduceMul, Nat.add_zero, Nat.zero_add, Nat.mul_zero, not_true_eq_false, not_false_eq_true, false_implies, true_implies, t1, nI_sub, Nat.add_sub_cancel, t2, m48]
      rw [show d + (zs.length + 1) - 1 = d + zs.length by omega]
      have f2 : jaFr [] [47, 48] S1 (jaUI (jaUI S1 70 0 47 (nI (zs ++ s).length)) 70 0 48 (nI (d + zs.length))) := (jaFr.rfl.uf (by decide)).uf (by decide)
      refine sp_M_code (l := l) (o := o) (stk := zs ++ s) (d := d + zs.length) (w := w) (a := 20) (b := 0) (c := 0) (by omega) ⟨?_, ?_, ?_, ?_, ?_, ?_⟩ (by omega) (fun S2 a2 g2 => ?_)
      · rw [f2.f 45 (by decide)]; exact m45
      · rw [f2.s 74 (by decide) (by decide)]; exact mr
      · rw [f2.f 46 (by decide)]; exact m46
      · exact ms.pop (by simp (disch := first | omega | decide) only [jaU_eq, jaU_U, nI_add, pk_mul, jaIx_nI, vp_inT, true_and, and_true, ↓jaO0, ↓jaO1, nI_z, nI_z2, nI_z3, nI_z4, nI_z5, nI_lt', nI_le', nI_eq', jaUI_at, jaPt_eq, jaPt_ne, jaUI_o, jaUI_2, jaUL_at, jaUL_o, jaUL_1, jaB_z, jaB_1, ↓jaB_01, Classical.not_not, and_self, true_or, or_true, nI_11, Nat.reduceEqDiff, Nat.reduceAdd, Nat.reduceMul, Nat.add_zero, Nat.zero_add, Nat.mul_zero, not_true_eq_false, not_false_eq_true, false_implies, true_implies]) (by rw [f2.s 89 (by decide) (by decide)])
      · simp (disch := first | omega | decide) only [jaU_eq, jaU_U, nI_add, pk_mul, jaIx_nI, vp_inT, true_and, and_true, ↓jaO0, ↓jaO1, nI_z, nI_z2, nI_z3, nI_z4, nI_z5, nI_lt', nI_le', nI_eq', jaUI_at, jaPt_eq, jaPt_ne, jaUI_o, jaUI_2, jaUL_at, jaUL_o, jaUL_1, jaB_z, jaB_1, ↓jaB_01, Classical.not_not, and_self, true_or, or_true, nI_11, Nat.reduceEqDiff, Nat.reduceAdd, Nat.reduceMul, Nat.add_zero, Nat.zero_add, Nat.mul_zero, not_true_eq_false, not_false_eq_true, false_implies, true_implies]
      · rw [f2.f 49 (by decide)]; exact m49
      · refine ih (l ++ [(20, 0, 0)]) S2 (fun c hc => hz c (List.mem_cons_of_mem _ hc)) a2 ?_ (by omega) (f.trans ((f2.mono (by decide) (by decide)).trans (g2.mono (by decide) (by decide)))) (fun S' a b => h S' ?_ b)
        · rw [List.length_append]
          simp only [List.length_cons, List.length_nil]
          omega
        · rw [List.append_assoc] at a
          exact a
  intro zs l S1 a b c c' d e
  apply js_M_nots
  exact L zs l S1 a b c c' d e
set_option maxHeartbeats 1000000 in
theorem sp_M_joins {D : Nat} (hD : 2 ≤ D) {kk : jaT → Prop} {σ : jaT} {S : jaS} {o d w t : Nat} {s : List Nat} (ht : t < 100) (hs : ∀ c r, s = c :: r → ¬ (c = 21 ∨ (c = 22 ∧ t = 22))) : ∀ (xs : List Nat) (l : List jbY) (S1 : jaS), (∀ c, c ∈ xs → c = 21 ∨ (c = 22 ∧ t = 22)) → jgM S1 l o (xs ++ s) d w → l.length + xs.length ≤ 44 → (xs ++ s).length ≤ 44 → jaFr [74] [45, 47, 48] S S1 → (∀ S', jgM S' (l ++ xs.map jgQ) o s d w → jaFr [74] [45, 47, 48] S S' → kk (jaU σ 20 S')) → jaDe D jy_M_joins [jaMo, .inl (nI t)] (jaU σ 20 S1) (jaKv kk) := by
  obtain ⟨D, rfl, hD⟩ := jaSuc hD
  have L : ∀ (xs : List Nat) (l : List jbY) (S1 : jaS), (∀ c, c ∈ xs → c = 21 ∨ (c = 22 ∧ t = 22)) → jgM S1 l o (xs ++ s) d w → l.length + xs.length ≤ 44 → (xs ++ s).length ≤ 44 → jaFr [74] [45, 47, 48] S S1 → (∀ S', jgM S' (l ++ xs.map jgQ) o s d w → jaFr [74] [45, 47, 48] S S' → kk (jaU σ 20 S')) → jc_M_joins_1 D kk (nI t) (jaU σ 20 S1) := by
    intro xs
    induction xs with
    | nil =>
      intro l S1 _ hM _ h44 f h
      have hM : jgM S1 l o s d w := hM
      have hk := h S1 (by rw [List.map_nil, List.append_nil]; exact hM) f
      apply jb_M_joins_1
      rcases hss : s with _ | ⟨c, r⟩
      · have e47 : S1.1 70 0 47 = nI 0 := by
          have := hM.2.2.2.1.1
          rw [hss] at this
          exact this
        simp (disch := first | omega | decide) only [jaU_eq, jaU_U, nI_add, pk_mul, jaIx_nI, vp_inT, true_and, and_true, ↓jaO0, ↓jaO1, nI_z, nI_z2, nI_z3, nI_z4, nI_z5, nI_lt', nI_le', nI_eq', jaUI_at, jaPt_eq, jaPt_ne, jaUI_o, jaUI_2, jaUL_at, jaUL_o, jaUL_1, jaB_z, jaB_1, ↓jaB_01, Classical.not_not, and_self, true_or, or_true, nI_11, Nat.reduceEqDiff, Nat.reduceAdd, Nat.reduceMul, Nat.add_zero, Nat.zero_add, Nat.mul_zero, not_true_eq_false, not_false_eq_true, false_implies, true_implies, e47]
        exact hk
      · have hq := hM.2.2.2.1
        rw [hss] at hq
        obtain ⟨t1, t2, t3⟩ := hq.top
        have hc := hs c r hss
        have hn : r.length < 44 := by
          rw [List.nil_append, hss, List.length_cons] at h44
          omega
        simp (disch := first | omega | decide) only [jaU_eq, jaU_U, nI_add, pk_mul, jaIx_nI, vp_inT, true_and, and_true, ↓jaO0, ↓jaO1, nI_z, nI_z2, nI_z3, nI_z4, nI_z5, nI_lt', nI_le', nI_eq', jaUI_at, jaPt_eq, jaPt_ne, jaUI_o, jaUI_2, jaUL_at, jaUL_o, jaUL_1, jaB_z, jaB_1, ↓jaB_01, Classical.not_not, and_self, true_or, or_true, nI_11, Nat.reduceEqDiff, Nat.reduceAdd, Nat.reduceMul, Nat.add_zero, Nat.zero_add, Nat.mul_zero, not_true_eq_false, not_false_eq_true, false_implies, true_implies, t1, nI_sub, Nat.add_sub_cancel, t2]
        exact ⟨fun z => absurd (Or.inl z) hc, fun _ => ⟨fun _ => hk, fun z => ⟨fun _ => hk, fun z2 => absurd (Or.inr ⟨z, z2⟩) hc⟩⟩⟩
    | cons c xs ih =>
      intro l S1 hz hM hl h44 f h
      have hc := hz c List.mem_cons_self
      have hM : jgM S1 l o (c :: (xs ++ s)) d w := hM
      obtain ⟨m45, mr, m46, ms, m48, m49⟩ := hM
      obtain ⟨t1, t2, t3⟩ := ms.top
      have hl' : l.length + (xs.length + 1) ≤ 44 := hl
      have h44' : (xs ++ s).length + 1 ≤ 44 := h44
      have f2 : jaFr [] [47] S1 (jaUI S1 70 0 47 (nI (xs ++ s).length)) := jaFr.rfl.uf (by decide)
      have G : jaDe D jy_M_code [jaMo, .inl (nI c), .inl (nI 0), .inl (nI 0)] (jaU σ 20 (jaUI S1 70 0 47 (nI (xs ++ s).length))) (jaKv fun σ2 => jc_M_joins_1 D kk (nI t) σ2) := by
        refine sp_M_code (l := l) (o := o) (stk := xs ++ s) (d := d) (w := w) (a := c) (b := 0) (c := 0) (by omega) ⟨?_, ?_, ?_, ?_, ?_, ?_⟩ (by omega) (fun S2 a2 g2 => ?_)
        · rw [f2.f 45 (by decide)]; exact m45
        · rw [f2.s 74 (by decide) (by decide)]; exact mr
        · rw [f2.f 46 (by decide)]; exact m46
        · exact ms.pop (by simp (disch := first | omega | decide) only [jaU_eq, jaU_U, nI_add, pk_mul, jaIx_nI, vp_inT, true_and, and_true, ↓jaO0, ↓jaO1, nI_z, nI_z2, nI_z3, nI_z4, nI_z5, nI_lt', nI_le', nI_eq', jaUI_at, jaPt_eq, jaPt_ne, jaUI_o, jaUI_2, jaUL_at, jaUL_o, jaUL_1, jaB_z, jaB_1, ↓jaB_01, Classical.not_not, and_self, true_or, or_true, nI_11, Nat.reduceEqDiff, Nat.reduceAdd, Nat.reduceMul, Nat.add_zero, Nat.zero_add, Nat.mul_zero, not_true_eq_false, not_false_eq_true, false_implies, true_implies]) (by rw [f2.s 89 (by decide) (by decide)])
        · rw [f2.f 48 (by decide)]; exact m48
        · rw [f2.f 49 (by decide)]; exact m49
        · refine ih (l ++ [(c, 0, 0)]) S2 (fun c hc => hz c (List.mem_cons_of_mem _ hc)) a2 ?_ (by omega) (f.trans ((f2.mono (by decide) (by decide)).trans (g2.mono (by decide) (by decide)))) (fun S' a b => h S' ?_ b)
          · rw [List.length_append]
            simp only [List.length_cons, List.length_nil]
            omega
          · rw [List.append_assoc] at a
            exact a
      apply jb_M_joins_1
      simp (disch := first | omega | decide) only [jaU_eq, jaU_U, nI_add, pk_mul, jaIx_nI, vp_inT, true_and, and_true, ↓jaO0, ↓jaO1, nI_z, nI_z2, nI_z3, nI_z4, nI_z5, nI_lt', nI_le', nI_eq', jaUI_at, jaPt_eq, jaPt_ne, jaUI_o, jaUI_2, jaUL_at, jaUL_o, jaUL_1, jaB_z, jaB_1, ↓jaB_01, Classical.not_not, and_self, true_or, or_true, nI_11, Nat.reduceEqDiff, Nat.reduceAdd, Nat.reduceMul, Nat.add_zero, Nat.zero_add, Nat.mul_zero, not_true_eq_false, not_false_eq_true, false_implies, true_implies, t1, nI_sub, Nat.add_sub_cancel, t2]
      refine ⟨fun _ => G, fun z => ?_⟩
      obtain ⟨y1, y2⟩ := hc.resolve_left z
      exact ⟨fun y => absurd y1 y, fun _ => ⟨fun y => absurd y2 y, fun _ => G⟩⟩
  intro xs l S1 a b c c' d e
  apply js_M_joins
  exact L xs l S1 a b c c' d e
theorem sp_M_leafOf {D : Nat} (hD : 2 ≤ D) {kk : Int32 → jaT → Prop} {σ : jaT} {S : jaS} {X : jtX} {i : Nat} (hR : jmN S X i) (h1 : 116 ≤ jtK X i → jtK X i ≤ 128 → kk (nI (jtK X i - 116)) (jaU σ 20 S)) (h0 : ¬ (116 ≤ jtK X i ∧ jtK X i ≤ 128) → kk (-1) (jaU σ 20 S)) : jaDe D jy_M_leafOf [jaMo] (jaU σ 20 S) (jaKi kk) := by
  obtain ⟨D, rfl, hD⟩ := jaSuc hD
  have G : ∀ w, w < 13 → jtK X i = 116 + w → kk (nI w) (jaU σ 20 S) := fun w hw e => by
    have := h1 (by omega) (by omega)
    rwa [show jtK X i - 116 = w by omega] at this
  apply js_M_leafOf
  refine sp_M_isWord (n := 16) (by omega) hR (by omega) (by decide +kernel) ?_
  simp (disch := first | omega | decide) only [jaU_eq, jaU_U, nI_add, pk_mul, jaIx_nI, vp_inT, true_and, and_true, ↓jaO0, ↓jaO1, nI_z, nI_z2, nI_z3, nI_z4, nI_z5, nI_lt', nI_le', nI_eq', jaUI_at, jaPt_eq, jaPt_ne, jaUI_o, jaUI_2, jaUL_at, jaUL_o, jaUL_1, jaB_z, jaB_1, ↓jaB_01, Classical.not_not, and_self, true_or, or_true, nI_11, Nat.reduceEqDiff, Nat.reduceAdd, Nat.reduceMul, Nat.add_zero, Nat.zero_add, Nat.mul_zero, not_true_eq_false, not_false_eq_true, false_implies, true_implies]
  refine ⟨fun q16 => ?_, fun q => G 0 (by omega) (by omega)⟩

  refine sp_M_isWord (n := 17) (by omega) hR (by omega) (by decide +kernel) ?_
  simp (disch := first | omega | decide) only [jaU_eq, jaU_U, nI_add, pk_mul, jaIx_nI, vp_inT, true_and, and_true, ↓jaO0, ↓jaO1, nI_z, nI_z2, nI_z3, nI_z4, nI_z5, nI_lt', nI_le', nI_eq', jaUI_at, jaPt_eq, jaPt_ne, jaUI_o, jaUI_2, jaUL_at, jaUL_o, jaUL_1, jaB_z, jaB_1, ↓jaB_01, Classical.not_not, and_self, true_or, or_true, nI_11, Nat.reduceEqDiff, Nat.reduceAdd, Nat.reduceMul, Nat.add_zero, Nat.zero_add, Nat.mul_zero, not_true_eq_false, not_false_eq_true, false_implies, true_implies]
  refine ⟨fun q17 => ?_, fun q => G 1 (by omega) (by omega)⟩

  refine sp_M_isWord (n := 18) (by omega) hR (by omega) (by decide +kernel) ?_
  simp (disch := first | omega | decide) only [jaU_eq, jaU_U, nI_add, pk_mul, jaIx_nI, vp_inT, true_and, and_true, ↓jaO0, ↓jaO1, nI_z, nI_z2, nI_z3, nI_z4, nI_z5, nI_lt', nI_le', nI_eq', jaUI_at, jaPt_eq, jaPt_ne, jaUI_o, jaUI_2, jaUL_at, jaUL_o, jaUL_1, jaB_z, jaB_1, ↓jaB_01, Classical.not_not, and_self, true_or, or_true, nI_11, Nat.reduceEqDiff, Nat.reduceAdd, Nat.reduceMul, Nat.add_zero, Nat.zero_add, Nat.mul_zero, not_true_eq_false, not_false_eq_true, false_implies, true_implies]
  refine ⟨fun q18 => ?_, fun q => G 2 (by omega) (by omega)⟩

  refine sp_M_isWord (n := 19) (by omega) hR (by omega) (by decide +kernel) ?_
  simp (disch := first | omega | decide) only [jaU_eq, jaU_U, nI_add, pk_mul, jaIx_nI, vp_inT, true_and, and_true, ↓jaO0, ↓jaO1, nI_z, nI_z2, nI_z3, nI_z4, nI_z5, nI_lt', nI_le', nI_eq', jaUI_at, jaPt_eq, jaPt_ne, jaUI_o, jaUI_2, jaUL_at, jaUL_o, jaUL_1, jaB_z, jaB_1, ↓jaB_01, Classical.not_not, and_self, true_or, or_true, nI_11, Nat.reduceEqDiff, Nat.reduceAdd, Nat.reduceMul, Nat.add_zero, Nat.zero_add, Nat.mul_zero, not_true_eq_false, not_false_eq_true, false_implies, true_implies]
  refine ⟨fun q19 => ?_, fun q => G 3 (by omega) (by omega)⟩

  refine sp_M_isWord (n := 20) (by omega) hR (by omega) (by decide +kernel) ?_
  simp (disch := first | omega | decide) only [jaU_eq, jaU_U, nI_add, pk_mul, jaIx_nI, vp_inT, true_and, and_true, ↓jaO0, ↓jaO1, nI_z, nI_z2, nI_z3, nI_z4, nI_z5, nI_lt', nI_le', nI_eq', jaUI_at, jaPt_eq, jaPt_ne, jaUI_o, jaUI_2, jaUL_at, jaUL_o, jaUL_1, jaB_z, jaB_1, ↓jaB_01, Classical.not_not, and_self, true_or, or_true, nI_11, Nat.reduceEqDiff, Nat.reduceAdd, Nat.reduceMul, Nat.add_zero, Nat.zero_add, Nat.mul_zero, not_true_eq_false, not_false_eq_true, false_implies, true_implies]
  refine ⟨fun q20 => ?_, fun q => G 4 (by omega) (by omega)⟩

  refine sp_M_isWord (n := 21) (by omega) hR (by omega) (by decide +kernel) ?_
  simp (disch := first | omega | decide) only [jaU_eq, jaU_U, nI_add, pk_mul, jaIx_nI, vp_inT, true_and, and_true, ↓jaO0, ↓jaO1, nI_z, nI_z2, nI_z3, nI_z4, nI_z5, nI_lt', nI_le', nI_eq', jaUI_at, jaPt_eq, jaPt_ne, jaUI_o, jaUI_2, jaUL_at, jaUL_o, jaUL_1, jaB_z, jaB_1, ↓jaB_01, Classical.not_not, and_self, true_or, or_true, nI_11, Nat.reduceEqDiff, Nat.reduceAdd, Nat.reduceMul, Nat.add_zero, Nat.zero_add, Nat.mul_zero, not_true_eq_false, not_false_eq_true, false_implies, true_implies]
  refine ⟨fun q21 => ?_, fun q => G 5 (by omega) (by omega)⟩

  refine sp_M_isWord (n := 22) (by omega) hR (by omega) (by decide +kernel) ?_
  simp (disch := first | omega | decide) only [jaU_eq, jaU_U, nI_add, pk_mul, jaIx_nI, vp_inT, true_and, and_true, ↓jaO0, ↓jaO1, nI_z, nI_z2, nI_z3, nI_z4, nI_z5, nI_lt', nI_le', nI_eq', jaUI_at, jaPt_eq, jaPt_ne, jaUI_o, jaUI_2, jaUL_at, jaUL_o, jaUL_1, jaB_z, jaB_1, ↓jaB_01, Classical.not_not, and_self, true_or, or_true, nI_11, Nat.reduceEqDiff, Nat.reduceAdd, Nat.reduceMul, Nat.add_zero, Nat.zero_add, Nat.mul_zero, not_true_eq_false, not_false_eq_true, false_implies, true_implies]
  refine ⟨fun q22 => ?_, fun q => G 6 (by omega) (by omega)⟩

  refine sp_M_isWord (n := 23) (by omega) hR (by omega) (by decide +kernel) ?_
  simp (disch := first | omega | decide) only [jaU_eq, jaU_U, nI_add, pk_mul, jaIx_nI, vp_inT, true_and, and_true, ↓jaO0, ↓jaO1, nI_z, nI_z2, nI_z3, nI_z4, nI_z5, nI_lt', nI_le', nI_eq', jaUI_at, jaPt_eq, jaPt_ne, jaUI_o, jaUI_2, jaUL_at, jaUL_o, jaUL_1, jaB_z, jaB_1, ↓jaB_01, Classical.not_not, and_self, true_or, or_true, nI_11, Nat.reduceEqDiff, Nat.reduceAdd, Nat.reduceMul, Nat.add_zero, Nat.zero_add, Nat.mul_zero, not_true_eq_false, not_false_eq_true, false_implies, true_implies]
  refine ⟨fun q23 => ?_, fun q => G 7 (by omega) (by omega)⟩

  refine sp_M_isWord (n := 24) (by omega) hR (by omega) (by decide +kernel) ?_
  simp (disch := first | omega | decide) only [jaU_eq, jaU_U, nI_add, pk_mul, jaIx_nI, vp_inT, true_and, and_true, ↓jaO0, ↓jaO1, nI_z, nI_z2, nI_z3, nI_z4, nI_z5, nI_lt', nI_le', nI_eq', jaUI_at, jaPt_eq, jaPt_ne, jaUI_o, jaUI_2, jaUL_at, jaUL_o, jaUL_1, jaB_z, jaB_1, ↓jaB_01, Classical.not_not, and_self, true_or, or_true, nI_11, Nat.reduceEqDiff, Nat.reduceAdd, Nat.reduceMul, Nat.add_zero, Nat.zero_add, Nat.mul_zero, not_true_eq_false, not_false_eq_true, false_implies, true_implies]
  refine ⟨fun q24 => ?_, fun q => G 8 (by omega) (by omega)⟩

  refine sp_M_isWord (n := 25) (by omega) hR (by omega) (by decide +kernel) ?_
  simp (disch := first | omega | decide) only [jaU_eq, jaU_U, nI_add, pk_mul, jaIx_nI, vp_inT, true_and, and_true, ↓jaO0, ↓jaO1, nI_z, nI_z2, nI_z3, nI_z4, nI_z5, nI_lt', nI_le', nI_eq', jaUI_at, jaPt_eq, jaPt_ne, jaUI_o, jaUI_2, jaUL_at, jaUL_o, jaUL_1, jaB_z, jaB_1, ↓jaB_01, Classical.not_not, and_self, true_or, or_true, nI_11, Nat.reduceEqDiff, Nat.reduceAdd, Nat.reduceMul, Nat.add_zero, Nat.zero_add, Nat.mul_zero, not_true_eq_false, not_false_eq_true, false_implies, true_implies]
  refine ⟨fun q25 => ?_, fun q => G 9 (by omega) (by omega)⟩

  refine sp_M_isWord (n := 26) (by omega) hR (by omega) (by decide +kernel) ?_
  simp (disch := first | omega | decide) only [jaU_eq, jaU_U, nI_add, pk_mul, jaIx_nI, vp_inT, true_and, and_true, ↓jaO0, ↓jaO1, nI_z, nI_z2, nI_z3, nI_z4, nI_z5, nI_lt', nI_le', nI_eq', jaUI_at, jaPt_eq, jaPt_ne, jaUI_o, jaUI_2, jaUL_at, jaUL_o, jaUL_1, jaB_z, jaB_1, ↓jaB_01, Classical.not_not, and_self, true_or, or_true, nI_11, Nat.reduceEqDiff, Nat.reduceAdd, Nat.reduceMul, Nat.add_zero, Nat.zero_add, Nat.mul_zero, not_true_eq_false, not_false_eq_true, false_implies, true_implies]
  refine ⟨fun q26 => ?_, fun q => G 10 (by omega) (by omega)⟩

  refine sp_M_isWord (n := 27) (by omega) hR (by omega) (by decide +kernel) ?_
  simp (disch := first | omega | decide) only [jaU_eq, jaU_U, nI_add, pk_mul, jaIx_nI, vp_inT, true_and, and_true, ↓jaO0, ↓jaO1, nI_z, nI_z2, nI_z3, nI_z4, nI_z5, nI_lt', nI_le', nI_eq', jaUI_at, jaPt_eq, jaPt_ne, jaUI_o, jaUI_2, jaUL_at, jaUL_o, jaUL_1, jaB_z, jaB_1, ↓jaB_01, Classical.not_not, and_self, true_or, or_true, nI_11, Nat.reduceEqDiff, Nat.reduceAdd, Nat.reduceMul, Nat.add_zero, Nat.zero_add, Nat.mul_zero, not_true_eq_false, not_false_eq_true, false_implies, true_implies]
  refine ⟨fun q27 => ?_, fun q => G 11 (by omega) (by omega)⟩
  refine sp_M_isWord (n := 28) (by omega) hR (by omega) (by decide +kernel) ?_
  simp (disch := first | omega | decide) only [jaU_eq, jaU_U, nI_add, pk_mul, jaIx_nI, vp_inT, true_and, and_true, ↓jaO0, ↓jaO1, nI_z, nI_z2, nI_z3, nI_z4, nI_z5, nI_lt', nI_le', nI_eq', jaUI_at, jaPt_eq, jaPt_ne, jaUI_o, jaUI_2, jaUL_at, jaUL_o, jaUL_1, jaB_z, jaB_1, ↓jaB_01, Classical.not_not, and_self, true_or, or_true, nI_11, Nat.reduceEqDiff, Nat.reduceAdd, Nat.reduceMul, Nat.add_zero, Nat.zero_add, Nat.mul_zero, not_true_eq_false, not_false_eq_true, false_implies, true_implies]
  exact ⟨fun q28 => h0 (by omega), fun q => G 12 (by omega) (by omega)⟩
end
