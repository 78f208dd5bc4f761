section
/-! the class: a TRANS, read: references and terms -/
def jsCo (r : Nat) (t : Option Nat) : Nat := match t with
  | none => 1000 + r
  | some j => 2000 + j
def jsPl (b v : Nat) (t : Option Nat) : Nat := if b = 0 then v else jsCo v t
def jsC (n : Nat) (u : jsS) (T : jaS) : Prop := T.1 54 0 0 = nI n ∧ T.1 57 0 n = nI u.2 ∧ ∀ j, j < u.2 → T.1 58 0 (4 * n + j) = u.1 (3 + j)
def jsF (n : Nat) (T T' : jaS) : Prop := (∀ o, o < 56 ∨ 60 ≤ o → T'.1 o = T.1 o) ∧ T'.2 = T.2 ∧ (∀ o m, 56 ≤ o → o < 58 → m ≠ n → T'.1 o 0 m = T.1 o 0 m) ∧ (∀ m, m < 4 * n → T'.1 58 0 m = T.1 58 0 m) ∧ ∀ m, m < 42 * n → T'.1 59 0 m = T.1 59 0 m
theorem jsF.rfl {n : Nat} {T : jaS} : jsF n T T := ⟨fun _ _ => Eq.refl _, Eq.refl _, fun _ _ _ _ _ => Eq.refl _, fun _ _ => Eq.refl _, fun _ _ => Eq.refl _⟩
theorem jsF.trans {n : Nat} {T T' T'' : jaS} (h : jsF n T T') (h' : jsF n T' T'') : jsF n T T'' := ⟨fun o ho => (h'.1 o ho).trans (h.1 o ho), h'.2.1.trans h.2.1, fun o m a b c => (h'.2.2.1 o m a b c).trans (h.2.2.1 o m a b c), fun m hm => (h'.2.2.2.1 m hm).trans (h.2.2.2.1 m hm), fun m hm => (h'.2.2.2.2 m hm).trans (h.2.2.2.2 m hm)⟩
theorem jsF.ui {n : Nat} {T T' : jaS} {o j : Nat} {v : Int32} (h : jsF n T T') (hc : (56 ≤ o ∧ o < 58 ∧ j = n) ∨ (o = 58 ∧ 4 * n ≤ j) ∨ (o = 59 ∧ 42 * n ≤ j)) : jsF n T (jaUI T' o 0 j v) := by
  refine ⟨fun q hq => ?_, h.2.1, fun q m a b c => ?_, fun m hm => ?_, fun m hm => ?_⟩
  · rw [jaUI_o (by omega)]
    exact h.1 q hq
  · by_cases e : q = o
    · rw [e, jaUI_at, jaPt_ne (by omega), ← e]
      exact h.2.2.1 q m a b c
    · rw [jaUI_o e]
      exact h.2.2.1 q m a b c
  · by_cases e : 58 = o
    · rw [← e, jaUI_at, jaPt_ne (by omega)]
      exact h.2.2.2.1 m hm
    · rw [jaUI_o e]
      exact h.2.2.2.1 m hm
  · by_cases e : 59 = o
    · rw [← e, jaUI_at, jaPt_ne (by omega)]
      exact h.2.2.2.2 m hm
    · rw [jaUI_o e]
      exact h.2.2.2.2 m hm
def jsE (K : Nat) (nm : Nat → Nat) (T : jaS) : Prop := jcN T nm ∧ T.1 30 0 1 = nI K
theorem jsE.f {K n : Nat} {nm : Nat → Nat} {T T' : jaS} (h : jsE K nm T) (f : jsF n T T') : jsE K nm T' := by
  refine ⟨fun j hj => ?_, ?_⟩
  · rw [f.2.1]
    exact h.1 j hj
  · rw [f.1 30 (by omega)]
    exact h.2
theorem jsF.e {n : Nat} {T T' : jaS} (h : T' = T) : jsF n T T' := by rw [h]; exact jsF.rfl
set_option maxHeartbeats 1000000 in
theorem sp_Sc_readRef {D : Nat} (hD : 3 ≤ D) {kk : Int32 → jaT → Prop} {τ : jaT} {X : jtX} {nm : Nat → Nat} {K n i k : Nat} {full : Prop} {u : jsS} (hk : k ≠ 0) (hf : ¬ full) (hR : jtR (τ 0) X i) (hE : jsE K nm (τ k)) (hK : K ≤ 10) (hn : n < 24) (hC : jsC n u (τ k)) (hw : jsW K u)
    (h : ∀ u' r t i', jsRef X nm K full u i = .inr (u', r, t, i') → ∀ τ', jtR (τ' 0) X i' → jsC n u' (τ' k) → jsF n (τ k) (τ' k) → (τ' k).1 56 = (τ k).1 56 → (τ' k).1 59 = (τ k).1 59 → jcFr k τ τ' → kk (nI (jsCo r t)) τ')
    (h0 : ∀ c p, jsRef X nm K full u i = .inl (c, p) → ∀ τ', jtFl (τ' 0) X c p → jsF n (τ k) (τ' k) → jcFr k τ τ' → kk (-1) τ') :
    jaDe D jy_Sc_readRef [jcSc k, .inr (.inr (2, 0, 0)), jcWo k] τ (jaKi kk) := by
  have hK' := hR.x
  obtain ⟨hn5, hk1⟩ := hE
  obtain ⟨c0, c1, c2⟩ := hC
  have a4 := hw.1
  obtain ⟨D, rfl, hD⟩ := jaSuc hD
  unfold jsRef at h h0
  apply js_Sc_readRef
  refine sp_Rd_kind (by omega) hR ?_
  simp (disch := first | omega | decide) only [jaU_eq, jaU_U, nI_add, pk_mul, jaIx_nI, vp_inT, true_and, and_true, ↓jaO0, ↓jaO1, nI_z, nI_z2, nI_z3, nI_z4, nI_z5, nI_lt', nI_le', nI_eq', jaUI_at, jaPt_eq, jaPt_ne, jaUI_o, jaUI_2, jaUL_at, jaUL_o, jaUL_1, jaB_z, jaB_1, ↓jaB_01, Classical.not_not, and_self, true_or, or_true, nI_11, Nat.reduceEqDiff, Nat.reduceAdd, Nat.reduceMul, Nat.add_zero, Nat.zero_add, Nat.mul_zero, not_true_eq_false, not_false_eq_true, false_implies, true_implies, c0, c1, hk1]
  refine ⟨fun q => ⟨fun q2 => ?_, fun q2 => ?_⟩, fun q => ?_⟩
  · rw [jaIf1_t q, jaIf1_f (fun z => z.elim hf (fun z => by omega))] at h h0
    refine sp_Rd_step (by omega) hR (fun S' s1 s2 s3 => ?_)
    have f1 : jtF2 τ (jaU τ 0 S') := jtF2.u s1 s2
    have ek : (jaU τ 0 S') k = τ k := f1.1 k hk
    rw [ek, hk1]
    refine sp_Wo_nam (i := i + 1) (X := X) (by omega) (by rw [jaU_eq]; exact s3) (by rw [ek]; exact hn5) (by omega) (fun r hr τ' r1 r2 => ?_) (fun c p hr τ' r1 r2 => ?_)
    · have lt := (jwNam_r hr).2.1
      have e2 : τ' k = τ k := (r2.1 k hk).trans ek
      rw [jwB_i hr] at h
      refine ⟨fun _ => ?_, fun z => absurd (nI_pos' (by omega)) z⟩
      simp (disch := first | omega | decide) only [jaU_eq, jaU_U, nI_add, pk_mul, jaIx_nI, vp_inT, true_and, and_true, ↓jaO0, ↓jaO1, nI_z, nI_z2, nI_z3, nI_z4, nI_z5, nI_lt', nI_le', nI_eq', jaUI_at, jaPt_eq, jaPt_ne, jaUI_o, jaUI_2, jaUL_at, jaUL_o, jaUL_1, jaB_z, jaB_1, ↓jaB_01, Classical.not_not, and_self, true_or, or_true, nI_11, Nat.reduceEqDiff, Nat.reduceAdd, Nat.reduceMul, Nat.add_zero, Nat.zero_add, Nat.mul_zero, not_true_eq_false, not_false_eq_true, false_implies, true_implies, e2, c0, c1]
      rw [Nat.mul_comm n 4]
      refine h _ r (some u.2) (i + 2) rfl _ ?_ ?_ ?_ ?_ ?_ ((f1.trans r2).c.trans (jcFr.k hk))
      · rw [jaU_ne (Ne.symm hk)]; exact r1
      · rw [jaU_eq]
        refine ⟨by simp (disch := first | omega | decide) only [jaU_eq, jaU_U, nI_add, pk_mul, jaIx_nI, vp_inT, true_and, and_true, ↓jaO0, ↓jaO1, nI_z, nI_z2, nI_z3, nI_z4, nI_z5, nI_lt', nI_le', nI_eq', jaUI_at, jaPt_eq, jaPt_ne, jaUI_o, jaUI_2, jaUL_at, jaUL_o, jaUL_1, jaB_z, jaB_1, ↓jaB_01, Classical.not_not, and_self, true_or, or_true, nI_11, Nat.reduceEqDiff, Nat.reduceAdd, Nat.reduceMul, Nat.add_zero, Nat.zero_add, Nat.mul_zero, not_true_eq_false, not_false_eq_true, false_implies, true_implies, c0], by simp (disch := first | omega | decide) only [jaU_eq, jaU_U, nI_add, pk_mul, jaIx_nI, vp_inT, true_and, and_true, ↓jaO0, ↓jaO1, nI_z, nI_z2, nI_z3, nI_z4, nI_z5, nI_lt', nI_le', nI_eq', jaUI_at, jaPt_eq, jaPt_ne, jaUI_o, jaUI_2, jaUL_at, jaUL_o, jaUL_1, jaB_z, jaB_1, ↓jaB_01, Classical.not_not, and_self, true_or, or_true, nI_11, Nat.reduceEqDiff, Nat.reduceAdd, Nat.reduceMul, Nat.add_zero, Nat.zero_add, Nat.mul_zero, not_true_eq_false, not_false_eq_true, false_implies, true_implies], fun j hj => ?_⟩
        have hj : j < u.2 + 1 := hj
        show (jaUI (jaUI (τ k) 58 0 (4 * n + u.2) (nI r)) 57 0 n (nI (u.2 + 1))).1 58 0 (4 * n + j) = jaPt u.1 (3 + u.2) (nI r) (3 + j)
        rw [jaUI_o (by decide), jaUI_at]
        by_cases e : j = u.2
        · rw [e, jaPt_eq, jaPt_eq]
        · rw [jaPt_ne (by omega), jaPt_ne (by omega)]
          exact c2 j (by omega)
      · rw [jaU_eq]
        exact (jsF.rfl.ui (by omega)).ui (by omega)
      · rw [jaU_eq, jaUI_o (by decide), jaUI_o (by decide)]
      · rw [jaU_eq, jaUI_o (by decide), jaUI_o (by decide)]
    · rw [jwB_l hr] at h0
      refine ⟨fun z => absurd (show (0 : Int32) ≤ -1 from z) (by decide), fun _ => ?_⟩
      exact h0 c p rfl τ' r1 (jsF.e ((r2.1 k hk).trans ek)) (f1.trans r2).c
  · rw [jaIf1_t q, jaIf1_t (Or.inr (by omega))] at h0
    exact sp_Rd_fail (by omega) hR (fun S' a b c => h0 4 i rfl _ (by rw [jaU_eq]; exact c) (jsF.e ((jtF2.u a b).1 k hk)) (jtF2.u a b).c)
  · rw [jaIf1_f q] at h h0
    refine sp_Wo_nam (by omega) hR hn5 (by omega) (fun r hr τ' r1 r2 => ?_) (fun c p hr τ' r1 r2 => ?_)
    · have lt := (jwNam_r hr).2.1
      rw [jwB_i hr, jaIf1_f hf] at h
      refine ⟨fun _ => ?_, fun z => absurd (nI_pos' (by omega)) z⟩
      rw [nI_add]
      have e2 : τ' k = τ k := r2.1 k hk
      refine h u r none (i + 1) rfl _ r1 ?_ (jsF.e e2) (by rw [e2]) (by rw [e2]) r2.c
      rw [e2]
      exact ⟨c0, c1, c2⟩
    · rw [jwB_l hr] at h0
      refine ⟨fun z => absurd (show (0 : Int32) ≤ -1 from z) (by decide), fun _ => ?_⟩
      exact h0 c p rfl τ' r1 (jsF.e (r2.1 k hk)) r2.c
set_option maxHeartbeats 1000000 in
theorem sp_Sc_readTerm {D : Nat} (hD : 4 ≤ D) {kk : Int32 → jaT → Prop} {τ : jaT} {X : jtX} {nm : Nat → Nat} {K n i k : Nat} {full : Prop} {u : jsS} (hk : k ≠ 0) (hf : ¬ full) (hR : jtR (τ 0) X i) (hE : jsE K nm (τ k)) (hK : K ≤ 10) (hn : n < 24) (hC : jsC n u (τ k)) (hw : jsW K u)
    (h : ∀ u' b v t i', jsTv X nm K full u i = .inr (u', b, v, t, i') → ∀ τ', jtR (τ' 0) X i' → jsC n u' (τ' k) → jsF n (τ k) (τ' k) → (τ' k).1 56 = (τ k).1 56 → (τ' k).1 59 = (τ k).1 59 → jcFr k τ τ' → kk (nI (jsPl b v t)) τ')
    (h0 : ∀ c p, jsTv X nm K full u i = .inl (c, p) → ∀ τ', jtFl (τ' 0) X c p → jsF n (τ k) (τ' k) → jcFr k τ τ' → kk (-1) τ') :
    jaDe D jy_Sc_readTerm [jcSc k, .inr (.inr (2, 0, 0)), jcWo k] τ (jaKi kk) := by
  have hK' := hR.x
  obtain ⟨D, rfl, hD⟩ := jaSuc hD
  unfold jsTv at h h0
  apply js_Sc_readTerm
  refine sp_Rd_kind (by omega) hR ?_
  simp (disch := first | omega | decide) only [jaU_eq, jaU_U, nI_add, pk_mul, jaIx_nI, vp_inT, true_and, and_true, ↓jaO0, ↓jaO1, nI_z, nI_z2, nI_z3, nI_z4, nI_z5, nI_lt', nI_le', nI_eq', jaUI_at, jaPt_eq, jaPt_ne, jaUI_o, jaUI_2, jaUL_at, jaUL_o, jaUL_1, jaB_z, jaB_1, ↓jaB_01, Classical.not_not, and_self, true_or, or_true, nI_11, Nat.reduceEqDiff, Nat.reduceAdd, Nat.reduceMul, Nat.add_zero, Nat.zero_add, Nat.mul_zero, not_true_eq_false, not_false_eq_true, false_implies, true_implies]
  refine ⟨fun q => ?_, fun q => ?_⟩
  · rw [jaIf1_f q] at h h0
    refine sp_Sc_readRef (full := full) (by omega) hk hf hR hE hK hn hC hw (fun u' r t i' e τ' a1 a2 a3 a4 a5 a6 => ?_) (fun c p e τ' a1 a2 a3 => ?_)
    · rw [jwB_i e] at h
      exact h u' 1 r t i' rfl τ' a1 a2 a3 a4 a5 a6
    · rw [jwB_l e] at h0
      exact h0 c p rfl τ' a1 a2 a3
  · rw [jaIf1_t q, jaIf1_f hf] at h
    have hv := jtV_lt hR.1 q
    refine sp_Rd_takeNumber (by omega) hR (by omega) (by omega) (fun _ _ _ S' s1 s2 s3 => ?_) (fun _ z => absurd ⟨Nat.zero_le _, by omega⟩ z) (fun z => absurd q z)
    have f1 : jtF2 τ (jaU τ 0 S') := jtF2.u s1 s2
    have ek : (jaU τ 0 S') k = τ k := f1.1 k hk
    exact h u 0 _ none (i + 1) rfl _ (by rw [jaU_eq]; exact s3) (by rw [ek]; exact hC) (jsF.e ek) (by rw [ek]) (by rw [ek]) f1.c
/-- one more -/
noncomputable def jsOne (X : jtX) (nm : Nat → Nat) (K w i : Nat) : Nat := jaIf1 (jtK X i = w ∨ jtK X i = 108 ∨ (jtK X i = 3 ∧ jnF nm 3 (jtW X i) K 0 ≠ none)) 4 (jaIf1 (jtK X i = 3) 3 1)
theorem jsRef_o {X : jtX} {nm : Nat → Nat} {K w i : Nat} {full : Prop} {u : jsS} (hf : full) (hw : jtK X i ≠ w) : jsRef X nm K full u i = .inl (jsOne X nm K w i, i) := by
  unfold jsRef jsOne
  by_cases q : jtK X i = 108
  · rw [jaIf1_t q, jaIf1_t (Or.inl hf), jaIf1_t (Or.inr (Or.inl q))]
  · rw [jaIf1_f q]
    unfold jwNam
    by_cases q2 : jtK X i = 3
    · rw [jaIf1_t q2]
      rcases ho : jnF nm 3 (jtW X i) K 0 with _ | r
      · rw [jaIf1_f (fun z => z.elim hw (fun z => z.elim q (fun z => z.2 rfl))), jaIf1_t q2]
        rfl
      · rw [jaIf1_t (Or.inr (Or.inr ⟨q2, fun z => by cases z⟩))]
        show jaIf1 full _ _ = _
        rw [jaIf1_t hf]
    · rw [jaIf1_f q2, jaIf1_f (fun z => z.elim hw (fun z => z.elim q (fun z => q2 z.1))), jaIf1_f q2]
      rfl
theorem jsTv_o {X : jtX} {nm : Nat → Nat} {K i : Nat} {full : Prop} {u : jsS} (hf : full) : jsTv X nm K full u i = .inl (jsOne X nm K 2 i, i) := by
  unfold jsTv
  by_cases q : jtK X i = 2
  · unfold jsOne
    rw [jaIf1_t q, jaIf1_t hf, jaIf1_t (Or.inl q)]
  · rw [jaIf1_f q, jsRef_o (w := 2) hf q]
    rfl
set_option maxHeartbeats 1000000 in
theorem sp_Sc_failOneMore {D : Nat} (hD : 3 ≤ D) {kk : Int32 → jaT → Prop} {τ : jaT} {X : jtX} {nm : Nat → Nat} {K i k w : Nat} (hk : k ≠ 0) (hR : jtR (τ 0) X i) (hE : jsE K nm (τ k)) (hK : K ≤ 10) (hw : w < 1000)
    (h : ∀ τ', jtFl (τ' 0) X (jsOne X nm K w i) i → jtF2 τ τ' → kk (nI 0) τ') : jaDe D jy_Sc_failOneMore [.inr (.inr (2, 0, 0)), jcWo k, .inl (nI w)] τ (jaKi kk) := by
  have hK' := hR.x
  obtain ⟨D, rfl, hD⟩ := jaSuc hD
  have F : ∀ c, jsOne X nm K w i = c → jaDe D jy_Rd_fail [.inr (.inr (2, 0, 0)), .inl (nI c)] τ (jaKi fun r σ => (r = 0 ∨ r = 1) ∧ kk r σ) := fun c hc => by
    refine sp_Rd_fail (by omega) hR (fun S' a b f => ⟨Or.inl rfl, h _ ?_ (jtF2.u a b)⟩)
    rw [jaU_eq, hc]
    exact f
  unfold jsOne at F
  apply js_Sc_failOneMore
  refine sp_Rd_kind (by omega) hR ?_
  simp (disch := first | omega | decide) only [jaU_eq, jaU_U, nI_add, pk_mul, jaIx_nI, vp_inT, true_and, and_true, ↓jaO0, ↓jaO1, nI_z, nI_z2, nI_z3, nI_z4, nI_z5, nI_lt', nI_le', nI_eq', jaUI_at, jaPt_eq, jaPt_ne, jaUI_o, jaUI_2, jaUL_at, jaUL_o, jaUL_1, jaB_z, jaB_1, ↓jaB_01, Classical.not_not, and_self, true_or, or_true, nI_11, Nat.reduceEqDiff, Nat.reduceAdd, Nat.reduceMul, Nat.add_zero, Nat.zero_add, Nat.mul_zero, not_true_eq_false, not_false_eq_true, false_implies, true_implies]
  refine ⟨fun q => F 4 (jaIf1_t (Or.inl q)), fun q => ⟨fun q2 => F 4 (jaIf1_t (Or.inr (Or.inl q2))), fun q2 => ?_⟩⟩
  refine sp_Wo_isKeyNext (by omega) hR hE.1 hE.2 hK ?_
  simp (disch := first | omega | decide) only [jaU_eq, jaU_U, nI_add, pk_mul, jaIx_nI, vp_inT, true_and, and_true, ↓jaO0, ↓jaO1, nI_z, nI_z2, nI_z3, nI_z4, nI_z5, nI_lt', nI_le', nI_eq', jaUI_at, jaPt_eq, jaPt_ne, jaUI_o, jaUI_2, jaUL_at, jaUL_o, jaUL_1, jaB_z, jaB_1, ↓jaB_01, Classical.not_not, and_self, true_or, or_true, nI_11, Nat.reduceEqDiff, Nat.reduceAdd, Nat.reduceMul, Nat.add_zero, Nat.zero_add, Nat.mul_zero, not_true_eq_false, not_false_eq_true, false_implies, true_implies]
  refine ⟨fun q3 => ⟨fun q4 => F 1 ?_, fun q4 => F 3 ?_⟩, fun q3 => F 4 (jaIf1_t (Or.inr (Or.inr q3)))⟩
  · rw [jaIf1_f (fun z => z.elim q (fun z => z.elim q2 q3)), jaIf1_f q4]
  · rw [jaIf1_f (fun z => z.elim q (fun z => z.elim q2 q3)), jaIf1_t q4]
end
