section
/-! the class: a TRANS, read: its steps -/
theorem jcRef_co {P : jvA} {q r : Nat} {t : Option Nat} (h0 : P q = nI r) (h1 : P (q + 1) = jvOp t nI) (hr : r < 1000) (ht : ∀ j, t = some j → j < 5) : jcRef P q = jsCo r t := by
  unfold jcRef jz
  rw [h0, h1]
  rcases t with _ | j
  · show jaIf1 ((0 : Int32) ≤ -1) _ (1000 + jaIx (nI r)) = _
    rw [jaIf1_f (show ¬ (0 : Int32) ≤ -1 by decide), jaIx_nI (by omega)]
    rfl
  · have := ht j rfl
    show jaIf1 ((0 : Int32) ≤ nI j) (2000 + jaIx (nI j)) _ = _
    rw [jaIf1_t (nI_pos' (by omega)), jaIx_nI (by omega)]
    rfl
theorem jsCo_lt {r : Nat} {t : Option Nat} (hr : r < 10) (ht : ∀ j, t = some j → j < 5) : jsCo r t < 3000 := by
  rcases t with _ | j
  · show 1000 + r < 3000
    omega
  · have := ht j rfl
    show 2000 + j < 3000
    omega
theorem jsPl_lt {b v : Nat} {t : Option Nat} (h : (b = 0 ∧ v < 1000 ∧ t = none) ∨ (b = 1 ∧ v < 10)) (ht : ∀ j, t = some j → j < 5) : jsPl b v t < 3000 := by
  unfold jsPl
  rcases h with ⟨h1, h2, h3⟩ | ⟨h1, h2⟩
  · rw [if_pos h1]; omega
  · rw [if_neg (by omega)]; exact jsCo_lt h2 ht
theorem jcTm_co {P : jvA} {q b v l : Nat} {t : Option Nat} (h0 : P q = nI b) (h1 : P (q + 1) = nI v) (h2 : P (q + 1 + 1) = jvOp t nI) (h3 : P (q + 3) = nI l) (h : (b = 0 ∧ v < 1000 ∧ t = none) ∨ (b = 1 ∧ v < 10)) (ht : ∀ j, t = some j → j < 5) (hl : l ≤ 1) : jcTm P q = if l = 1 then (-1 : Int32) - nI (jsPl b v t) else nI (jsPl b v t) := by
  have e : jcPl P q = jsPl b v t := by
    unfold jcPl jsPl
    rw [h0]
    rcases h with ⟨g1, g2, g3⟩ | ⟨g1, g2⟩
    · rw [g1, jaIf1_t (show nI 0 = 0 from rfl), if_pos rfl, jz, h1, jaIx_nI (by omega)]
    · rw [g1, jaIf1_f (show ¬ nI 1 = 0 by decide), if_neg (by decide), jcRef_co h1 h2 (by omega) ht]
  unfold jcTm
  rw [h3, e]
  by_cases q : l = 1
  · rw [q, jaIf1_t rfl, if_pos rfl]
  · rw [show l = 0 by omega, jaIf1_f (by decide), if_neg (by decide)]
theorem jcRef_c {P P' : jvA} {q : Nat} (h0 : P' q = P q) (h1 : P' (q + 1) = P (q + 1)) : jcRef P' q = jcRef P q := by
  unfold jcRef
  rw [h1, jz_c h0, jz_c h1]
theorem jcTm_c {P P' : jvA} {q : Nat} (h : ∀ j, j < 4 → P' (q + j) = P (q + j)) : jcTm P' q = jcTm P q := by
  have e0 := h 0 (by decide)
  rw [Nat.add_zero] at e0
  unfold jcTm jcPl
  rw [e0, h 3 (by decide), jz_c (h 1 (by decide)), jcRef_c (h 1 (by decide)) (h 2 (by decide))]
theorem jsC.p {n : Nat} {u : jsS} {P : jvA} {T : jaS} (h : jsC n u T) (h4 : u.2 ≤ 4) (hq : ∀ q, q < 7 → P q = u.1 q) : jsC n (P, u.2) T :=
  ⟨h.1, h.2.1, fun j hj => by
    have hj : j < u.2 := hj
    show _ = P (3 + j)
    rw [hq _ (by omega)]
    exact h.2.2 j hj⟩
theorem jsC.t {n : Nat} {u : jsS} {T T' : jaS} (h : jsC n u T) (hq : ∀ o, o ≠ 59 → T'.1 o = T.1 o) : jsC n u T' := by
  unfold jsC
  rw [hq 54 (by decide), hq 57 (by decide), hq 58 (by decide)]
  exact h
theorem jsHd_lo {P : jvA} {to nd r c q : Nat} {t : Option Nat} (h : q < to) : jsHd P to nd r t c q = P q := by
  unfold jsHd
  rw [jaPt_ne (by omega), jaPt_ne (by omega), jaPt_ne (by omega), jaPt_ne (by omega), jaPt_ne (by omega)]
theorem jsHd_c {P : jvA} {to nd r c : Nat} {t : Option Nat} : jsHd P to nd r t c to = nI nd ∧ jsHd P to nd r t c (to + 1) = nI r ∧ jsHd P to nd r t c (to + 1 + 1) = jvOp t nI ∧ jsHd P to nd r t c (to + 3) = nI c := by
  unfold jsHd
  refine ⟨?_, ?_, ?_, jaPt_eq⟩
  · rw [jaPt_ne (by omega), jaPt_ne (by omega), jaPt_ne (by omega), jaPt_ne (by omega), jaPt_eq]
  · rw [jaPt_ne (by omega), jaPt_ne (by omega), jaPt_ne (by omega), jaPt_eq]
  · rw [jaPt_ne (by omega), jaPt_ne (by omega), jaPt_eq]
theorem jsTerm_e {X : jtX} {nm : Nat → Nat} {K to l k : Nat} {u u1 : jsS} {i b v i1 : Nat} {t : Option Nat} (h : jsTv X nm K (k = 4) u i = .inr (u1, b, v, t, i1)) : jsTerm X nm K to l k u i = .inr ((jaPt (jsPu u1.1 (to + 5 + 4 * k) b v t l) (to + 4) (nI (k + 1)), u1.2), i1) := by
  unfold jsTerm
  rw [jwB_i h]
/-- a term's cells -/
theorem jsTerm_t {X : jtX} (hX : ∀ q, X.1 q < 256) {nm : Nat → Nat} {K to l k : Nat} {u u1 : jsS} {i b v i1 : Nat} {t : Option Nat} (h : jsTv X nm K (k = 4) u i = .inr (u1, b, v, t, i1)) (hw : jsW K u) (hK : K ≤ 10) (hto : 7 ≤ to) (hl : l ≤ 1) : jsPl b v t < 3000 ∧ jcTm (jaPt (jsPu u1.1 (to + 5 + 4 * k) b v t l) (to + 4) (nI (k + 1))) (to + 5 + 4 * k) = if l = 1 then (-1 : Int32) - nI (jsPl b v t) else nI (jsPl b v t) := by
  obtain ⟨a, ⟨w1, w2⟩, c, d, e, f⟩ := jsTv_r hX h hw hK
  have d' : (b = 0 ∧ v < 1000 ∧ t = none) ∨ (b = 1 ∧ v < 10) := d.imp (fun z => z) (fun z => ⟨z.1, by omega⟩)
  have ht : ∀ j, t = some j → j < 5 := fun j hj => by have := e j hj; omega
  refine ⟨jsPl_lt d' ht, ?_⟩
  rw [jcTm_c (P := jsPu u1.1 (to + 5 + 4 * k) b v t l) (fun j hj => jaPt_ne (by omega))]
  exact jcTm_co jsPu_0 jsPu_1 jsPu_2 jsPu_3 d' ht hl
set_option maxHeartbeats 2000000 in
theorem sp_Sc_readNeed {D : Nat} (hD : 5 ≤ D) {kk : Int32 → jaT → Prop} {τ : jaT} {X : jtX} {nm : Nat → Nat} {K n i k f to : Nat} {full : Prop} {u : jsS} (hk : k ≠ 0) (hf : ¬ full) (hR : jtR (τ 0) X i) (hE : jsE K nm (τ k)) (hK : K ≤ 10) (hn : n < 24) (hC : jsC n u (τ k)) (hw : jsW K u) (hto : 7 ≤ to) (hf7 : f + 7 ≤ 1008) (hfn : 42 * n ≤ f)
    (h : ∀ u' i', jsNeed X nm K to full u i = .inr (u', i') → ∀ τ', jtR (τ' 0) X i' → jsC n u' (τ' k) → jsF n (τ k) (τ' k) → (τ' k).1 56 = (τ k).1 56 → jRq ((τ' k).1 59 0) u'.1 f to → (∀ m, ¬ (f ≤ m ∧ m < f + 7) → (τ' k).1 59 0 m = (τ k).1 59 0 m) → jcFr k τ τ' → kk (nI 1) τ')
    (h0 : ∀ c p, jsNeed X nm K to full u i = .inl (c, p) → ∀ τ', jtFl (τ' 0) X c p → jsF n (τ k) (τ' k) → jcFr k τ τ' → kk (nI 0) τ') :
    jaDe D jy_Sc_readNeed [jcSc k, .inr (.inr (2, 0, 0)), jcWo k, .inl (nI f)] τ (jaKi kk) := by
  have hX := hR.1
  have n1 : ¬ (0 : Int32) ≤ -1 := by decide
  obtain ⟨D, rfl, hD⟩ := jaSuc hD
  unfold jsNeed at h h0
  apply js_Sc_readNeed
  refine sp_Rd_step (by omega) hR (fun S' s1 s2 s3 => ?_)
  have f1 : jtF2 τ (jaU τ 0 S') := jtF2.u s1 s2
  have ek : (jaU τ 0 S') k = τ k := f1.1 k hk
  refine sp_Sc_readRef (τ := jaU τ 0 S') (full := full) (u := u) (i := i + 1) (nm := nm) (K := K) (n := n) (X := X) (by omega) hk hf (by rw [jaU_eq]; exact s3) (by rw [ek]; exact hE) hK hn (by rw [ek]; exact hC) hw (fun u1 r t i1 e τ1 a1 a2 a3 a4 a5 a6 => ?_) (fun c p e τ1 a1 a2 a3 => ?_)
  · rw [ek] at a3 a4 a5
    rw [jwB_i e] at h h0
    obtain ⟨-, g2, g3, g4, g5, g6⟩ := jsRef_r e hw hK
    have hlt := jsCo_lt (r := r) (t := t) (by omega) (fun j hj => by have := g5 j hj; have := g2.1; omega)
    have hKi := a1.x
    refine ⟨fun _ => ?_, fun z => absurd (nI_pos' (by omega)) z⟩
    refine sp_Rd_takeCompare (by omega) a1 (fun q1 q2 S2 b1 b2 b3 => ?_) (fun q S2 b1 b2 b3 => ?_)
    · have q3 : 60 ≤ jtK X i1 ∧ jtK X i1 ≤ 62 := ⟨q1, q2⟩
      rw [jaIf1_t q3] at h h0
      have f2 : jtF2 τ1 (jaU τ1 0 S2) := jtF2.u b1 b2
      have e2 : (jaU τ1 0 S2) k = τ1 k := f2.1 k hk
      obtain ⟨w1, w2, w3⟩ := jsHd_W (to := to) (nd := 1) (c := jtK X i1) g2 hto (by omega) g4 hK g5 q1 q2
      refine ⟨fun _ => ?_, fun z => absurd (nI_pos' (by omega)) z⟩
      refine sp_Sc_readTerm (τ := jaU τ1 0 S2) (full := 0 = 4) (u := (jsHd u1.1 to 1 r t (jtK X i1), u1.2)) (i := i1 + 1) (nm := nm) (K := K) (n := n) (X := X) (by omega) hk (by decide) (by rw [jaU_eq]; exact b3) (by rw [e2]; exact hE.f a3) hK hn (by rw [e2]; exact a2.p g2.1 (fun q hq => jsHd_lo (by omega))) w1 (fun u2 b v t2 i2 e3 τ3 d1 d2 d3 d4 d5 d6 => ?_) (fun c p e3 τ3 d1 d2 d3 => ?_)
      · rw [e2] at d3 d4 d5
        have E := jsTerm_e (to := to) (l := 0) e3
        obtain ⟨y1, y2⟩ := jsTerm_t (to := to) (l := 0) hX e3 w1 hK hto (by omega)
        obtain ⟨-, -, -, -, -, y3⟩ := jsTv_r hX e3 w1 hK
        obtain ⟨z0, z1, z2, z3⟩ := jsHd_c (P := u1.1) (to := to) (nd := 1) (r := r) (c := jtK X i1) (t := t)
        have hh := h _ _ E
        have low : ∀ q, 7 ≤ q → q < to + 4 → jaPt (jsPu u2.1 (to + 5 + 4 * 0) b v t2 0) (to + 4) (nI (0 + 1)) q = jsHd u1.1 to 1 r t (jtK X i1) q := fun q h1 h2 => by
          rw [jaPt_ne (by omega), jsPu_n (by omega)]
          exact y3 q h1
        have h4 : jaPt (jsPu u2.1 (to + 5 + 4 * 0) b v t2 0) (to + 4) (nI (0 + 1)) (to + 4) = nI 1 := jaPt_eq
        have hd6 : ∀ q, q < 7 → jaPt (jsPu u2.1 (to + 5 + 4 * 0) b v t2 0) (to + 4) (nI (0 + 1)) q = u2.1 q := fun q h1 => by
          rw [jaPt_ne (by omega), jsPu_n (by omega)]
        generalize jaPt (jsPu u2.1 (to + 5 + 4 * 0) b v t2 0) (to + 4) (nI (0 + 1)) = P at *
        refine ⟨fun _ => ?_, fun z => absurd (nI_pos' (by omega)) z⟩
        simp (disch := first | omega | decide) only [jaU_eq, jaU_U, nI_add, pk_mul, jaIx_nI, vp_inT, true_and, and_true, ↓jaO0, ↓jaO1, nI_z, nI_z2, nI_z3, nI_z4, nI_z5, nI_lt', nI_le', nI_eq', jaUI_at, jaPt_eq, jaPt_ne, jaUI_o, jaUI_2, jaUL_at, jaUL_o, jaUL_1, jaB_z, jaB_1, ↓jaB_01, Classical.not_not, and_self, true_or, or_true, nI_11, Nat.reduceEqDiff, Nat.reduceAdd, Nat.reduceMul, Nat.add_zero, Nat.zero_add, Nat.mul_zero, not_true_eq_false, not_false_eq_true, false_implies, true_implies]
        refine hh _ ?_ ?_ ?_ ?_ ?_ ?_ ((f1.c.trans (a6.trans (f2.c.trans d6))).trans (jcFr.k hk))
        · rw [jaU_ne (Ne.symm hk)]; exact d1
        · rw [jaU_eq]
          exact (d2.p (jsTv_r hX e3 w1 hK).2.1.1 hd6).t (fun o ho => by rw [jaUI_o ho, jaUI_o ho, jaUI_o ho, jaUI_o ho])
        · rw [jaU_eq]
          exact ((((a3.trans d3).ui (by omega)).ui (by omega)).ui (by omega)).ui (by omega)
        · rw [jaU_eq, jaUI_o (by decide), jaUI_o (by decide), jaUI_o (by decide), jaUI_o (by decide), d4, a4]
        · rw [jaU_eq]
          have P0 : P to = nI 1 := (low to hto (by omega)).trans z0
          have P3 : P (to + 3) = nI (jtK X i1) := (low _ (by omega) (by omega)).trans z3
          have PR : jcRef P (to + 1) = jsCo r t := jcRef_co ((low _ (by omega) (by omega)).trans z1) ((low _ (by omega) (by omega)).trans z2) (by omega) (fun j hj => by have := g5 j hj; have := g2.1; omega)
          have P4 : jz P (to + 4) = 1 := by rw [jz, h4, jaIx_nI (by omega)]
          refine ⟨?_, ?_, ?_, fun x hx => ?_⟩
          · show _ = jaIf1 (P to = nI 1) (P (to + 3)) (nI 0)
            rw [jaIf1_t P0, P3]
            simp (disch := first | omega | decide) only [jaU_eq, jaU_U, nI_add, pk_mul, jaIx_nI, vp_inT, true_and, and_true, ↓jaO0, ↓jaO1, nI_z, nI_z2, nI_z3, nI_z4, nI_z5, nI_lt', nI_le', nI_eq', jaUI_at, jaPt_eq, jaPt_ne, jaUI_o, jaUI_2, jaUL_at, jaUL_o, jaUL_1, jaB_z, jaB_1, ↓jaB_01, Classical.not_not, and_self, true_or, or_true, nI_11, Nat.reduceEqDiff, Nat.reduceAdd, Nat.reduceMul, Nat.add_zero, Nat.zero_add, Nat.mul_zero, not_true_eq_false, not_false_eq_true, false_implies, true_implies]
          · show _ = nI (jcRef P (to + 1))
            rw [PR]
            simp (disch := first | omega | decide) only [jaU_eq, jaU_U, nI_add, pk_mul, jaIx_nI, vp_inT, true_and, and_true, ↓jaO0, ↓jaO1, nI_z, nI_z2, nI_z3, nI_z4, nI_z5, nI_lt', nI_le', nI_eq', jaUI_at, jaPt_eq, jaPt_ne, jaUI_o, jaUI_2, jaUL_at, jaUL_o, jaUL_1, jaB_z, jaB_1, ↓jaB_01, Classical.not_not, and_self, true_or, or_true, nI_11, Nat.reduceEqDiff, Nat.reduceAdd, Nat.reduceMul, Nat.add_zero, Nat.zero_add, Nat.mul_zero, not_true_eq_false, not_false_eq_true, false_implies, true_implies]
          · show _ = P (to + 4)
            rw [h4]
            simp (disch := first | omega | decide) only [jaU_eq, jaU_U, nI_add, pk_mul, jaIx_nI, vp_inT, true_and, and_true, ↓jaO0, ↓jaO1, nI_z, nI_z2, nI_z3, nI_z4, nI_z5, nI_lt', nI_le', nI_eq', jaUI_at, jaPt_eq, jaPt_ne, jaUI_o, jaUI_2, jaUL_at, jaUL_o, jaUL_1, jaB_z, jaB_1, ↓jaB_01, Classical.not_not, and_self, true_or, or_true, nI_11, Nat.reduceEqDiff, Nat.reduceAdd, Nat.reduceMul, Nat.add_zero, Nat.zero_add, Nat.mul_zero, not_true_eq_false, not_false_eq_true, false_implies, true_implies]
          · have hx : x < jz P (to + 4) := hx
            rw [P4] at hx
            have hx0 : x = 0 := by omega
            subst hx0
            show _ = jcTm P (to + 5 + 4 * 0)
            rw [y2, if_neg (by decide)]
            simp (disch := first | omega | decide) only [jaU_eq, jaU_U, nI_add, pk_mul, jaIx_nI, vp_inT, true_and, and_true, ↓jaO0, ↓jaO1, nI_z, nI_z2, nI_z3, nI_z4, nI_z5, nI_lt', nI_le', nI_eq', jaUI_at, jaPt_eq, jaPt_ne, jaUI_o, jaUI_2, jaUL_at, jaUL_o, jaUL_1, jaB_z, jaB_1, ↓jaB_01, Classical.not_not, and_self, true_or, or_true, nI_11, Nat.reduceEqDiff, Nat.reduceAdd, Nat.reduceMul, Nat.add_zero, Nat.zero_add, Nat.mul_zero, not_true_eq_false, not_false_eq_true, false_implies, true_implies]
        · intro m hm
          rw [jaU_eq, ← a5, ← d5]
          simp (disch := first | omega | decide) only [jaU_eq, jaU_U, nI_add, pk_mul, jaIx_nI, vp_inT, true_and, and_true, ↓jaO0, ↓jaO1, nI_z, nI_z2, nI_z3, nI_z4, nI_z5, nI_lt', nI_le', nI_eq', jaUI_at, jaPt_eq, jaPt_ne, jaUI_o, jaUI_2, jaUL_at, jaUL_o, jaUL_1, jaB_z, jaB_1, ↓jaB_01, Classical.not_not, and_self, true_or, or_true, nI_11, Nat.reduceEqDiff, Nat.reduceAdd, Nat.reduceMul, Nat.add_zero, Nat.zero_add, Nat.mul_zero, not_true_eq_false, not_false_eq_true, false_implies, true_implies]
      · rw [e2] at d2
        rw [show jsTerm X nm K to 0 0 (jsHd u1.1 to 1 r t (jtK X i1), u1.2) (i1 + 1) = .inl (c, p) from jwB_l e3] at h0
        refine ⟨fun z => absurd z n1, fun _ => ⟨Or.inl rfl, h0 c p rfl τ3 d1 (a3.trans d2) (f1.c.trans (a6.trans (f2.c.trans d3)))⟩⟩
    · have q3 : ¬ (60 ≤ jtK X i1 ∧ jtK X i1 ≤ 62) := q
      rw [jaIf1_f q3] at h0
      have f2 : jtF2 τ1 (jaU τ1 0 S2) := jtF2.u b1 b2
      have e2 : (jaU τ1 0 S2) k = τ1 k := f2.1 k hk
      refine ⟨fun z => absurd z n1, fun _ => ⟨fun z => absurd z n1, fun _ => ⟨Or.inl rfl, h0 1 i1 rfl _ (by rw [jaU_eq]; exact b3) (by rw [e2]; exact a3) (f1.c.trans (a6.trans f2.c))⟩⟩⟩
  · rw [ek] at a2
    rw [jwB_l e] at h0
    exact ⟨fun z => absurd z n1, fun _ => ⟨fun z => absurd z n1, fun _ => ⟨fun z => absurd z n1, fun _ => ⟨Or.inl rfl, h0 c p rfl τ1 a1 a2 (f1.c.trans a3)⟩⟩⟩⟩
end
