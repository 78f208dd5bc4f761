section
/-! the class: a TRANS, read: all of it -/
def jsL (C P : jvA) (f to q : Nat) : Prop := P to = nI 0 ∧ C f = nI 0 ∧ C (f + 1) = nI (jcRef P (to + 1)) ∧ ∀ x, x < q → C (f + 3 + x) = jcTm P (to + 5 + 4 * x)
theorem jsL.q {C P : jvA} {f to q : Nat} (h : jsL C P f to q) (h2 : C (f + 2) = nI q) (h4 : P (to + 4) = nI q) (hq : q ≤ 4) : jRq C P f to := by
  obtain ⟨a, b, c, d⟩ := h
  have z : jz P (to + 4) = q := by rw [jz, h4, jaIx_nI (by omega)]
  refine ⟨?_, c, by rw [h2, h4], fun x hx => ?_⟩
  · rw [b, jaIf1_f (by rw [a]; decide)]
  · rw [z] at hx
    exact d x hx
/-- what one call of reading keeps -/
def jsK0 (n k : Nat) (τ τ' : jaT) : Prop := jsF n (τ k) (τ' k) ∧ jcFr k τ τ'
theorem jsK0.trans {n k : Nat} {τ τ' τ'' : jaT} (h : jsK0 n k τ τ') (h' : jsK0 n k τ' τ'') : jsK0 n k τ τ'' := ⟨h.1.trans h'.1, h.2.trans h'.2⟩
theorem jsK0.r {n k : Nat} {τ τ' : jaT} (hk : k ≠ 0) (d : jtF2 τ τ') : jsK0 n k τ τ' := ⟨jsF.e (d.1 k hk), d.c⟩
def jsK (n k f : Nat) (τ τ' : jaT) : Prop := jsF n (τ k) (τ' k) ∧ (τ' k).1 56 = (τ k).1 56 ∧ (∀ m, ¬ (f ≤ m ∧ m < f + 7) → (τ' k).1 59 0 m = (τ k).1 59 0 m) ∧ jcFr k τ τ'
theorem jsK.z {n k f : Nat} {τ τ' : jaT} (h : jsK n k f τ τ') : jsK0 n k τ τ' := ⟨h.1, h.2.2.2⟩
theorem jsK.trans {n k f : Nat} {τ τ' τ'' : jaT} (h : jsK n k f τ τ') (h' : jsK n k f τ' τ'') : jsK n k f τ τ'' := ⟨h.1.trans h'.1, h'.2.1.trans h.2.1, fun m hm => (h'.2.2.1 m hm).trans (h.2.2.1 m hm), h.2.2.2.trans h'.2.2.2⟩
theorem jsK.x {n k f : Nat} {τ τ' : jaT} (a : jsF n (τ k) (τ' k)) (b : (τ' k).1 56 = (τ k).1 56) (c : (τ' k).1 59 = (τ k).1 59) (d : jcFr k τ τ') : jsK n k f τ τ' := ⟨a, b, fun m _ => by rw [c], d⟩
theorem jsK.r {n k f : Nat} {τ τ' : jaT} (hk : k ≠ 0) (d : jtF2 τ τ') : jsK n k f τ τ' := jsK.x (jsF.e (d.1 k hk)) (by rw [d.1 k hk]) (by rw [d.1 k hk]) d.c
theorem jsK.u {n k f j : Nat} {τ τ' : jaT} {T : jaS} {v : Int32} (hk : k ≠ 0) (h : jsK n k f τ (jaU τ' k T)) (hj : f ≤ j) (hj2 : j < f + 7) (hn : 42 * n ≤ f) : jsK n k f τ (jaU τ' k (jaUI T 59 0 j v)) := by
  obtain ⟨a, b, c, d⟩ := h
  rw [jaU_eq] at a b c
  refine ⟨?_, ?_, fun m hm => ?_, ?_⟩
  · rw [jaU_eq]; exact a.ui (by omega)
  · rw [jaU_eq, jaUI_o (by decide)]; exact b
  · rw [jaU_eq, jaUI_at, jaPt_ne (by omega)]; exact c m hm
  · exact ⟨fun q h1 h2 => by rw [jaU_ne h2, ← d.1 q h1 h2, jaU_ne h2], fun o ho => by
      have := d.2 o ho
      rw [jaU_ne (Ne.symm hk)] at this ⊢
      exact this⟩
set_option maxHeartbeats 4000000 in
theorem jc_gl {D : Nat} (hD : 4 ≤ D) {kk : Int32 → jaT → Prop} {τ : jaT} {X : jtX} {nm : Nat → Nat} {K n k f to : Nat} {x4 : Int32} (hk : k ≠ 0) (hK : K ≤ 10) (hn : n < 24) (hto : 7 ≤ to) (hf7 : f + 7 ≤ 1008) (hfn : 42 * n ≤ f) : ∀ m q l u i τ1 uo, q + m = 5 → 1 ≤ m → l ≤ 1 → jtR (τ1 0) X i → jsE K nm (τ1 k) → jsC n u (τ1 k) → jsW K u → jsI K to q u → jsL ((τ1 k).1 59 0) u.1 f to q → jsK n k f τ τ1 →
    (∀ u' i', jsTl X nm K to m l q u i = .inr (u', i') → ∀ τ', jtR (τ' 0) X i' → jsC n u' (τ' k) → jRq ((τ' k).1 59 0) u'.1 f to → jsK n k f τ τ' → kk (nI 1) τ') →
    (∀ c p, jsTl X nm K to m l q u i = .inl (c, p) → ∀ τ', jtFl (τ' 0) X c p → jsK0 n k τ τ' → kk (nI 0) τ') →
    jc_Sc_readGives_3 D kk k k (nI f) x4 (nI l) (nI q) uo τ1 := by
  intro m
  induction m with
  | zero => intro q l u i τ1 uo _ h1; exact absurd h1 (by omega)
  | succ m ih =>
    intro q l u i τ1 uo hqm _ hl hR hE hC hw hI hL hKp h h0
    have hX := hR.1
    have n1 : ¬ (0 : Int32) ≤ -1 := by decide
    rw [jsTl] at h h0
    apply jb_Sc_readGives_3
    by_cases q4 : q = 4
    · subst q4
      refine ⟨fun _ => ?_, fun z => absurd (show nI 4 ≤ nI 4 by decide) z⟩
      refine sp_Sc_failOneMore (nm := nm) (K := K) (by omega) hk hR hE hK (by omega) (fun τ' a b => ⟨Or.inl rfl, h0 _ _ ?_ τ' a (hKp.z.trans (jsK0.r hk b))⟩)
      rw [jsTerm, jsTv_o rfl]
      rfl
    · simp (disch := first | omega | decide) only [jaU_eq, jaU_U, nI_add, pk_mul, jaIx_nI, vp_inT, true_and, and_true, ↓jaO0, ↓jaO1, nI_z, nI_z2, nI_z3, nI_z4, nI_z5, nI_lt', nI_le', nI_eq', jaUI_at, jaPt_eq, jaPt_ne, jaUI_o, jaUI_2, jaUL_at, jaUL_o, jaUL_1, jaB_z, jaB_1, ↓jaB_01, Classical.not_not, and_self, true_or, or_true, nI_11, Nat.reduceEqDiff, Nat.reduceAdd, Nat.reduceMul, Nat.add_zero, Nat.zero_add, Nat.mul_zero, not_true_eq_false, not_false_eq_true, false_implies, true_implies]
      refine ⟨fun z => absurd z (by omega), fun _ => ?_⟩
      refine sp_Sc_readTerm (full := q = 4) (u := u) (i := i) (nm := nm) (K := K) (n := n) (X := X) (by omega) hk q4 hR hE hK hn hC hw (fun u2 b v t2 i2 e3 τ3 d1 d2 d3 d4 d5 d6 => ?_) (fun c p e3 τ3 d1 d2 d3 => ?_)
      · have E := jsTerm_e (to := to) (l := l) e3
        obtain ⟨y1, y2⟩ := jsTerm_t (to := to) (l := l) hX e3 hw hK hto hl
        obtain ⟨g1, g2, g3, g4, g5, g6⟩ := jsTerm_r hX E hw hK hto hl
        have I1 := jsTerm_I hX E hw hK hto hl hI
        have hd6 : ∀ j, j < 7 → jaPt (jsPu u2.1 (to + 5 + 4 * q) b v t2 l) (to + 4) (nI (q + 1)) j = u2.1 j := fun j h1 => by
          rw [jaPt_ne (by omega), jsPu_n (by omega)]
        have w2 := (jsTv_r hX e3 hw hK).2.1.1
        rw [jwB_i E] at h h0
        have hKi := d1.x
        have hC2 := d2.p w2 hd6
        generalize jaPt (jsPu u2.1 (to + 5 + 4 * q) b v t2 l) (to + 4) (nI (q + 1)) = P at *
        have hK3 : jsK n k f τ τ3 := hKp.trans (jsK.x d3 d4 d5 d6)
        obtain ⟨l0, l1, l2, l3⟩ := hL
        have M : ∀ T, (τ3 k = T) → ∀ val, val = jcTm P (to + 5 + 4 * q) → jtR ((jaU τ3 k (jaUI (jaUI T 59 0 (f + 3 + q) val) 59 0 (f + 2) (nI (q + 1)))) 0) X i2 ∧ jsE K nm ((jaU τ3 k (jaUI (jaUI T 59 0 (f + 3 + q) val) 59 0 (f + 2) (nI (q + 1)))) k) ∧ jsC n (P, u2.2) ((jaU τ3 k (jaUI (jaUI T 59 0 (f + 3 + q) val) 59 0 (f + 2) (nI (q + 1)))) k) ∧ jsL (((jaU τ3 k (jaUI (jaUI T 59 0 (f + 3 + q) val) 59 0 (f + 2) (nI (q + 1)))) k).1 59 0) P f to (q + 1) ∧ jRq (((jaU τ3 k (jaUI (jaUI T 59 0 (f + 3 + q) val) 59 0 (f + 2) (nI (q + 1)))) k).1 59 0) P f to ∧ jsK n k f τ (jaU τ3 k (jaUI (jaUI T 59 0 (f + 3 + q) val) 59 0 (f + 2) (nI (q + 1)))) := by
          rintro T rfl val hval
          have A : jsL (((jaU τ3 k (jaUI (jaUI (τ3 k) 59 0 (f + 3 + q) val) 59 0 (f + 2) (nI (q + 1)))) k).1 59 0) P f to (q + 1) := by
            refine ⟨(g6 to hto (by omega) (by omega)).trans l0, ?_, ?_, fun x hx => ?_⟩
            · rw [jaU_eq, jaUI_at, jaPt_ne (by omega), jaUI_at, jaPt_ne (by omega), d5]; exact l1
            · rw [jaU_eq, jaUI_at, jaPt_ne (by omega), jaUI_at, jaPt_ne (by omega), d5, jcRef_c (g6 (to + 1) (by omega) (by omega) (by omega)) (g6 (to + 1 + 1) (by omega) (by omega) (by omega))]
              exact l2
            · rw [jaU_eq, jaUI_at, jaPt_ne (by omega), jaUI_at]
              by_cases ex : x = q
              · rw [ex, jaPt_eq, hval]
              · rw [jaPt_ne (by omega), d5, jcTm_c (P := u.1) (fun j hj => g6 _ (by omega) (by omega) (by omega))]
                exact l3 x (by omega)
          refine ⟨by rw [jaU_ne (Ne.symm hk)]; exact d1, ?_, ?_, A, A.q ?_ g5 (by omega), ?_⟩
          · rw [jaU_eq]
            exact (hE.f d3).f (((jsF.rfl (n := n)).ui (by omega)).ui (by omega))
          · rw [jaU_eq]
            exact hC2.t (fun o ho => by rw [jaUI_o ho, jaUI_o ho])
          · rw [jaU_eq, jaUI_at, jaPt_eq]
          · refine jsK.u hk (jsK.u hk ?_ (by omega) (by omega) hfn) (by omega) (by omega) hfn
            rw [jaU_self]
            exact hK3
        have NX : ∀ T, (τ3 k = T) → ∀ val, val = jcTm P (to + 5 + 4 * q) → ∀ uo', (jtK X i2 ≠ 45 → jaDe D jy_Rd_kind [.inr (.inr (2, 0, 0))] (jaU τ3 k (jaUI (jaUI T 59 0 (f + 3 + q) val) 59 0 (f + 2) (nI (q + 1)))) (jaKi fun r11 σ10 => (r11 = nI 43 → jaDe D jy_Rd_step [.inr (.inr (2, 0, 0))] σ10 (jaKv fun σ12 => jc_Sc_readGives_3 D kk k k (nI f) x4 (nI 0) (nI (q + 1)) uo' σ12)) ∧ (¬ r11 = nI 43 → kk (nI 1) σ10))) ∧ (jtK X i2 = 45 → jaDe D jy_Rd_step [.inr (.inr (2, 0, 0))] (jaU τ3 k (jaUI (jaUI T 59 0 (f + 3 + q) val) 59 0 (f + 2) (nI (q + 1)))) (jaKv fun σ13 => jc_Sc_readGives_3 D kk k k (nI f) x4 (nI 1) (nI (q + 1)) uo' σ13)) := by
          intro T hT val hval uo'
          obtain ⟨m1, m2, m3, m4, m5, m6⟩ := M T hT val hval
          generalize jaU τ3 k (jaUI (jaUI T 59 0 (f + 3 + q) val) 59 0 (f + 2) (nI (q + 1))) = τ4 at *
          have ST : ∀ l', l' = jaBn (jtK X i2 = 45) → (jtK X i2 = 43 ∨ jtK X i2 = 45) → jaDe D jy_Rd_step [.inr (.inr (2, 0, 0))] τ4 (jaKv fun σ13 => jc_Sc_readGives_3 D kk k k (nI f) x4 (nI l') (nI (q + 1)) uo' σ13) := by
            intro l' hl' hs
            rw [jaIf1_t hs, ← hl'] at h h0
            refine sp_Rd_step (by omega) m1 (fun S' s1 s2 s3 => ?_)
            have f1 : jtF2 τ4 (jaU τ4 0 S') := jtF2.u s1 s2
            have ek : (jaU τ4 0 S') k = τ4 k := f1.1 k hk
            exact ih (q + 1) l' (P, u2.2) (i2 + 1) _ _ (by omega) (by omega) (by rw [hl']; exact jaBn_le) (by rw [jaU_eq]; exact s3) (by rw [ek]; exact m2) (by rw [ek]; exact m3) g2 I1 (by rw [ek]; exact m4) (m6.trans (jsK.r hk f1)) h h0
          refine ⟨fun z => ?_, fun z => ST 1 (by rw [jaBn_t z]) (Or.inr z)⟩
          refine sp_Rd_kind (by omega) m1 ?_
          simp (disch := first | omega | decide) only [jaU_eq, jaU_U, nI_add, pk_mul, jaIx_nI, vp_inT, true_and, and_true, ↓jaO0, ↓jaO1, nI_z, nI_z2, nI_z3, nI_z4, nI_z5, nI_lt', nI_le', nI_eq', jaUI_at, jaPt_eq, jaPt_ne, jaUI_o, jaUI_2, jaUL_at, jaUL_o, jaUL_1, jaB_z, jaB_1, ↓jaB_01, Classical.not_not, and_self, true_or, or_true, nI_11, Nat.reduceEqDiff, Nat.reduceAdd, Nat.reduceMul, Nat.add_zero, Nat.zero_add, Nat.mul_zero, not_true_eq_false, not_false_eq_true, false_implies, true_implies]
          refine ⟨fun y => ST 0 (by rw [jaBn_f z]) (Or.inl y), fun y => ?_⟩
          rw [jaIf1_f (fun w => w.elim y z)] at h
          exact h _ _ rfl τ4 m1 m3 m5 m6
        refine ⟨fun _ => ?_, fun z => absurd (nI_pos' (by omega)) z⟩
        rw [y2] at NX M
        refine ⟨fun z => ?_, fun z => ?_⟩
        · have nx := NX _ rfl (nI (jsPl b v t2)) (by rw [if_neg (by omega)]) (some (.inl (nI (jsPl b v t2))))
          refine sp_Rd_kind (by omega) (M _ rfl (nI (jsPl b v t2)) (by rw [if_neg (by omega)])).1 ?_
          simp (disch := first | omega | decide) only [jaU_eq, jaU_U, nI_add, pk_mul, jaIx_nI, vp_inT, true_and, and_true, ↓jaO0, ↓jaO1, nI_z, nI_z2, nI_z3, nI_z4, nI_z5, nI_lt', nI_le', nI_eq', jaUI_at, jaPt_eq, jaPt_ne, jaUI_o, jaUI_2, jaUL_at, jaUL_o, jaUL_1, jaB_z, jaB_1, ↓jaB_01, Classical.not_not, and_self, true_or, or_true, nI_11, Nat.reduceEqDiff, Nat.reduceAdd, Nat.reduceMul, Nat.add_zero, Nat.zero_add, Nat.mul_zero, not_true_eq_false, not_false_eq_true, false_implies, true_implies]
          exact nx
        · have nx := NX _ rfl ((-1 : Int32) - nI (jsPl b v t2)) (by rw [if_pos (by omega)]) (some (.inl (nI (jsPl b v t2))))
          refine sp_Rd_kind (by omega) (M _ rfl ((-1 : Int32) - nI (jsPl b v t2)) (by rw [if_pos (by omega)])).1 ?_
          simp (disch := first | omega | decide) only [jaU_eq, jaU_U, nI_add, pk_mul, jaIx_nI, vp_inT, true_and, and_true, ↓jaO0, ↓jaO1, nI_z, nI_z2, nI_z3, nI_z4, nI_z5, nI_lt', nI_le', nI_eq', jaUI_at, jaPt_eq, jaPt_ne, jaUI_o, jaUI_2, jaUL_at, jaUL_o, jaUL_1, jaB_z, jaB_1, ↓jaB_01, Classical.not_not, and_self, true_or, or_true, nI_11, Nat.reduceEqDiff, Nat.reduceAdd, Nat.reduceMul, Nat.add_zero, Nat.zero_add, Nat.mul_zero, not_true_eq_false, not_false_eq_true, false_implies, true_implies]
          exact nx
      · rw [show jsTerm X nm K to l q u i = .inl (c, p) from jwB_l e3] at h0
        exact ⟨fun z => absurd z n1, fun _ => h0 c p rfl τ3 d1 (hKp.z.trans ⟨d2, d3⟩)⟩
set_option maxHeartbeats 2000000 in
theorem sp_Sc_readGives {D : Nat} (hD : 5 ≤ D) {kk : Int32 → jaT → Prop} {τ : jaT} {X : jtX} {nm : Nat → Nat} {K n i k f to : Nat} {full : Prop} {u : jsS} (hk : k ≠ 0) (hf : ¬ full) (hR : jtR (τ 0) X i) (hE : jsE K nm (τ k)) (hK : K ≤ 10) (hn : n < 24) (hC : jsC n u (τ k)) (hw : jsW K u) (hto : 7 ≤ to) (hf7 : f + 7 ≤ 1008) (hfn : 42 * n ≤ f)
    (h : ∀ u' i', jsGive X nm K to full u i = .inr (u', i') → ∀ τ', jtR (τ' 0) X i' → jsC n u' (τ' k) → jRq ((τ' k).1 59 0) u'.1 f to → jsK n k f τ τ' → kk (nI 1) τ')
    (h0 : ∀ c p, jsGive X nm K to full u i = .inl (c, p) → ∀ τ', jtFl (τ' 0) X c p → jsK0 n k τ τ' → kk (nI 0) τ') :
    jaDe D jy_Sc_readGives [jcSc k, .inr (.inr (2, 0, 0)), jcWo k, .inl (nI f)] τ (jaKi kk) := by
  have n1 : (-1 : Int32) < 0 := by decide
  obtain ⟨D, rfl, hD⟩ := jaSuc hD
  unfold jsGive at h h0
  apply js_Sc_readGives
  refine sp_Sc_readRef (full := full) (u := u) (i := i) (nm := nm) (K := K) (n := n) (X := X) (by omega) hk hf hR hE hK hn hC hw (fun u1 r t i1 e τ1 a1 a2 a3 a4 a5 a6 => ?_) (fun c p e τ1 a1 a2 a3 => ?_)
  · rw [jwB_i e] at h h0
    obtain ⟨-, g2, g3, g4, g5, g6⟩ := jsRef_r e hw hK
    have hlt := jsCo_lt (r := r) (t := t) (by omega) (fun j hj => by have := g5 j hj; have := g2.1; omega)
    have K1 : jsK n k f τ τ1 := jsK.x a3 a4 a5 a6
    refine ⟨fun z => absurd z (nI_pos (by omega)), fun _ => ?_⟩
    refine sp_Rd_take (c := 61) (by omega) a1 (by omega) (fun q2 S' s1 s2 s3 => ?_) (fun q2 S' s1 s2 s3 => ?_)
    · rw [jaIf1_t q2] at h h0
      have f2 : jtF2 τ1 (jaU τ1 0 S') := jtF2.u s1 s2
      have e2 : (jaU τ1 0 S') k = τ1 k := f2.1 k hk
      obtain ⟨w1, w2, w3⟩ := jsHd_W (to := to) (nd := 0) (c := 61) g2 hto (by omega) g4 hK g5 (by omega) (by omega)
      obtain ⟨z0, z1, z2, z3⟩ := jsHd_c (P := u1.1) (to := to) (nd := 0) (r := r) (c := 61) (t := t)
      have PR : jcRef (jsHd u1.1 to 0 r t 61) (to + 1) = jsCo r t := jcRef_co z1 z2 (by omega) (fun j hj => by have := g5 j hj; have := g2.1; omega)
      have hC2 : jsC n (jsHd u1.1 to 0 r t 61, u1.2) (τ1 k) := a2.p g2.1 (fun q hq => jsHd_lo (by omega))
      refine ⟨fun _ => ?_, fun z => absurd z (by decide)⟩
      have K2 : jsK n k f τ (jaU τ1 0 S') := K1.trans (jsK.r hk f2)
      generalize hτ : jaU τ1 0 S' = τ2 at *
      simp (disch := first | omega | decide) only [jaU_eq, jaU_U, nI_add, pk_mul, jaIx_nI, vp_inT, true_and, and_true, ↓jaO0, ↓jaO1, nI_z, nI_z2, nI_z3, nI_z4, nI_z5, nI_lt', nI_le', nI_eq', jaUI_at, jaPt_eq, jaPt_ne, jaUI_o, jaUI_2, jaUL_at, jaUL_o, jaUL_1, jaB_z, jaB_1, ↓jaB_01, Classical.not_not, and_self, true_or, or_true, nI_11, Nat.reduceEqDiff, Nat.reduceAdd, Nat.reduceMul, Nat.add_zero, Nat.zero_add, Nat.mul_zero, not_true_eq_false, not_false_eq_true, false_implies, true_implies]
      refine jc_gl (τ := τ) (to := to) (nm := nm) (K := K) (n := n) (X := X) (by omega) hk hK hn hto hf7 hfn 5 0 0 (jsHd u1.1 to 0 r t 61, u1.2) (i1 + 1) _ _ rfl (by omega) (by omega) ?_ ?_ ?_ w1 w2 ?_ ?_ h h0
      · rw [jaU_ne (Ne.symm hk), ← hτ, jaU_eq]; exact s3
      · rw [jaU_eq, e2]
        exact (hE.f a3).f (((jsF.rfl (n := n)).ui (by omega)).ui (by omega))
      · rw [jaU_eq, e2]
        exact hC2.t (fun o ho => by rw [jaUI_o ho, jaUI_o ho])
      · rw [jaU_eq]
        refine ⟨z0, ?_, ?_, fun x hx => absurd hx (by omega)⟩
        · simp (disch := first | omega | decide) only [jaU_eq, jaU_U, nI_add, pk_mul, jaIx_nI, vp_inT, true_and, and_true, ↓jaO0, ↓jaO1, nI_z, nI_z2, nI_z3, nI_z4, nI_z5, nI_lt', nI_le', nI_eq', jaUI_at, jaPt_eq, jaPt_ne, jaUI_o, jaUI_2, jaUL_at, jaUL_o, jaUL_1, jaB_z, jaB_1, ↓jaB_01, Classical.not_not, and_self, true_or, or_true, nI_11, Nat.reduceEqDiff, Nat.reduceAdd, Nat.reduceMul, Nat.add_zero, Nat.zero_add, Nat.mul_zero, not_true_eq_false, not_false_eq_true, false_implies, true_implies]
        · show _ = nI (jcRef (jsHd u1.1 to 0 r t 61) (to + 1))
          rw [PR]
          simp (disch := first | omega | decide) only [jaU_eq, jaU_U, nI_add, pk_mul, jaIx_nI, vp_inT, true_and, and_true, ↓jaO0, ↓jaO1, nI_z, nI_z2, nI_z3, nI_z4, nI_z5, nI_lt', nI_le', nI_eq', jaUI_at, jaPt_eq, jaPt_ne, jaUI_o, jaUI_2, jaUL_at, jaUL_o, jaUL_1, jaB_z, jaB_1, ↓jaB_01, Classical.not_not, and_self, true_or, or_true, nI_11, Nat.reduceEqDiff, Nat.reduceAdd, Nat.reduceMul, Nat.add_zero, Nat.zero_add, Nat.mul_zero, not_true_eq_false, not_false_eq_true, false_implies, true_implies]
      · refine jsK.u hk (jsK.u hk ?_ (by omega) (by omega) hfn) (by omega) (by omega) hfn
        rw [jaU_self]
        exact K2
    · rw [jaIf1_f q2] at h0
      have f2 : jtF2 τ1 (jaU τ1 0 S') := jtF2.u s1 s2
      exact ⟨fun z => absurd rfl z, fun _ => ⟨Or.inl rfl, h0 1 i1 rfl _ (by rw [jaU_eq]; exact s3) (K1.z.trans (jsK0.r hk f2))⟩⟩
  · rw [jwB_l e] at h0
    exact ⟨fun _ => ⟨Or.inl rfl, h0 c p rfl τ1 a1 ⟨a2, a3⟩⟩, fun z => absurd n1 z⟩
end
