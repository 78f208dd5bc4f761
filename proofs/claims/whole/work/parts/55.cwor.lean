section
/-! a LINE of a WORLD -/
/-- the rows, the NAMES, whether EPOCH and LINK are told -/
abbrev jwS : Type := jvA × (Nat → Nat) × Nat × Nat
abbrev jwF : Type := Nat × Nat
def jwU (h : jvA) (j : Nat) : Prop := j < jz h 0 ∨ (3 ≤ j ∧ j < 3 + jz h 1) ∨ (13 ≤ j ∧ j < 13 + jz h 2)
def jnPt (nm : Nat → Nat) (j w : Nat) : Nat → Nat := fun i => if i = j then w else nm i
def jwB {A B : Type} (r : Sum jwF A) (f : A → Sum jwF B) : Sum jwF B := match r with
  | .inl x => .inl x
  | .inr a => f a
noncomputable def jwNew (X : jtX) (h : jvA) (nm : Nat → Nat) (slot i : Nat) : Sum jwF (Nat → Nat) := jaIf1 (jtK X i = 3) (jaIf1 (∃ j, j < 16 ∧ jwU h j ∧ nm j = jtW X i) (.inl (3, i)) (.inr (jnPt nm slot (jtW X i)))) (.inl (1, i))
noncomputable def jwNum (X : jtX) (lo hi i : Nat) : Sum jwF Nat := jaIf1 (jtK X i = 2) (jaIf1 (lo ≤ jtV X i ∧ jtV X i ≤ hi) (.inr (jtV X i)) (.inl (2, i))) (.inl (1, i))
noncomputable def jwNam (X : jtX) (nm : Nat → Nat) (f n i : Nat) : Sum jwF Nat := jaIf1 (jtK X i = 3) (match jnF nm f (jtW X i) n 0 with | none => .inl (3, i) | some r => .inr r) (.inl (1, i))
noncomputable def jwEp (X : jtX) (w : jwS) (i : Nat) : Sum jwF (jwS × Nat) := jaIf1 (w.2.2.1 = 1) (.inl (3, i)) (jwB (jwNum X 1 20 (i + 1)) fun v => .inr ((jaPt w.1 3 (nI v), w.2.1, 1, w.2.2.2), i + 2))
noncomputable def jwLi (X : jtX) (w : jwS) (i : Nat) : Sum jwF (jwS × Nat) := jaIf1 (w.2.2.2 = 1) (.inl (3, i)) (jwB (jwNum X 0 9 (i + 1)) fun v => .inr ((jaPt w.1 4 (nI v), w.2.1, w.2.2.1, 1), i + 2))
noncomputable def jwSi (X : jtX) (w : jwS) (i : Nat) : Sum jwF (jwS × Nat) := jaIf1 (jz w.1 0 = 3) (.inl (4, i)) (jwB (jwNew X w.1 w.2.1 (jz w.1 0) (i + 1)) fun nm => .inr ((jaPt w.1 0 (nI (jz w.1 0 + 1)), nm, w.2.2), i + 2))
noncomputable def jwKe (X : jtX) (w : jwS) (i : Nat) : Sum jwF (jwS × Nat) := jaIf1 (jz w.1 1 = 10) (.inl (4, i)) (jwB (jwNew X w.1 w.2.1 (3 + jz w.1 1) (i + 1)) fun nm => jwB (jwNam X nm 0 (jz w.1 0) (i + 2)) fun r => jwB (jwNum X 0 999 (i + 3)) fun v => .inr ((jaPt (jaPt (jaPt w.1 (5 + jz w.1 1) (nI r)) (15 + jz w.1 1) (nI v)) 1 (nI (jz w.1 1 + 1)), nm, w.2.2), i + 4))
noncomputable def jwCo (X : jtX) (w : jwS) (i : Nat) : Sum jwF (jwS × Nat) := jaIf1 (jz w.1 2 = 3) (.inl (4, i)) (jwB (jwNew X w.1 w.2.1 (13 + jz w.1 2) (i + 1)) fun nm => jwB (jwNum X 1 4 (i + 2)) fun v => jaIf1 (jtK X (i + 3) = 104 ∨ jtK X (i + 3) = 103) (.inr ((jaPt (jaPt (jaPt w.1 (25 + jz w.1 2) (nI v)) (28 + jz w.1 2) (nI (jaBn (jtK X (i + 3) = 104)))) 2 (nI (jz w.1 2 + 1)), nm, w.2.2), i + 4)) (.inl (1, i + 3)))
noncomputable def jwLine (X : jtX) (w : jwS) (i : Nat) : Sum jwF (jwS × Nat) :=
  jaIf1 (jtK X i = 105) (jwEp X w i) (jaIf1 (jtK X i = 106) (jwLi X w i) (jaIf1 (jtK X i = 100) (jwSi X w i) (jaIf1 (jtK X i = 101) (jwKe X w i) (jaIf1 (jtK X i = 102) (jwCo X w i) (.inl (1, i))))))
/-- well so far -/
def jwW (w : jwS) : Prop :=
  (w.1 0 = nI (jz w.1 0) ∧ jz w.1 0 ≤ 3) ∧ (w.1 1 = nI (jz w.1 1) ∧ jz w.1 1 ≤ 10) ∧ (w.1 2 = nI (jz w.1 2) ∧ jz w.1 2 ≤ 3) ∧ (w.1 3 = nI (jz w.1 3) ∧ 1 ≤ jz w.1 3 ∧ jz w.1 3 ≤ 20) ∧ (w.1 4 = nI (jz w.1 4) ∧ jz w.1 4 ≤ 9) ∧
  (∀ k, k < jz w.1 1 → w.1 (5 + k) = nI (jz w.1 (5 + k)) ∧ jz w.1 (5 + k) < jz w.1 0) ∧
  (∀ c, c < jz w.1 2 → w.1 (25 + c) = nI (jz w.1 (25 + c)) ∧ 1 ≤ jz w.1 (25 + c) ∧ jz w.1 (25 + c) ≤ 4 ∧ (w.1 (28 + c) = nI 0 ∨ w.1 (28 + c) = nI 1)) ∧
  (∀ j, j < 16 → w.2.1 j < 9223372036854775808 ∧ (¬ jwU w.1 j → w.2.1 j = 0)) ∧ w.2.2.1 ≤ 1 ∧ w.2.2.2 ≤ 1
/-- the class's world so far -/
def jcW (T : jaS) (w : jwS) : Prop :=
  (T.1 30 0 0 = w.1 0 ∧ T.1 30 0 1 = w.1 1 ∧ T.1 30 0 2 = w.1 2 ∧ T.1 30 0 3 = jaIf1 (w.2.2.1 = 1) (w.1 3) (-1) ∧ T.1 30 0 4 = jaIf1 (w.2.2.2 = 1) (w.1 4) (-1)) ∧
  (∀ k, k < jz w.1 1 → T.1 31 0 k = w.1 (5 + k) ∧ T.1 32 0 k = w.1 (15 + k)) ∧ (∀ c, c < jz w.1 2 → T.1 33 0 c = w.1 (25 + c) ∧ T.1 34 0 c = w.1 (28 + c)) ∧ (∀ c, c < 3 → T.1 34 0 c = 0 ∨ T.1 34 0 c = 1) ∧ ∀ j, j < 16 → T.2 35 0 j = Int64.ofNat (w.2.1 j)
def jcFr (k : Nat) (τ τ' : jaT) : Prop := (∀ q, q ≠ 0 → q ≠ k → τ' q = τ q) ∧ jtF (τ 0) (τ' 0)
theorem jcFr.rfl {k : Nat} {τ : jaT} : jcFr k τ τ := ⟨fun _ _ _ => Eq.refl _, fun _ _ => Eq.refl _⟩
theorem jcFr.trans {k : Nat} {τ τ' τ'' : jaT} (h : jcFr k τ τ') (h' : jcFr k τ' τ'') : jcFr k τ τ'' := ⟨fun q a b => (h'.1 q a b).trans (h.1 q a b), fun o ho => (h'.2 o ho).trans (h.2 o ho)⟩
theorem jcFr.k {k : Nat} {τ : jaT} {T : jaS} (hk : k ≠ 0) : jcFr k τ (jaU τ k T) := ⟨fun q _ b => jaU_ne b, fun o ho => by rw [jaU_ne (Ne.symm hk)]⟩
theorem jtF2.c {k : Nat} {τ τ' : jaT} (h : jtF2 τ τ') : jcFr k τ τ' := ⟨fun q a _ => h.1 q a, h.2.1⟩
/-- the same, and the bools stand -/
def jcF4 (k : Nat) (τ τ' : jaT) : Prop := jcFr k τ τ' ∧ (τ' k).1 34 = (τ k).1 34
theorem jcF4.trans {k : Nat} {τ τ' τ'' : jaT} (h : jcF4 k τ τ') (h' : jcF4 k τ' τ'') : jcF4 k τ τ'' := ⟨h.1.trans h'.1, h'.2.trans h.2⟩
theorem jtF2.c4 {k : Nat} {τ τ' : jaT} (h : jtF2 τ τ') (hk : k ≠ 0) : jcF4 k τ τ' := ⟨h.c, by rw [h.1 k hk]⟩
theorem jcW.n {T : jaS} {w : jwS} (h : jcW T w) (hw : jwW w) : jcN T w.2.1 := fun j hj => ⟨h.2.2.2.2 j hj, (hw.2.2.2.2.2.2.2.1 j hj).1⟩
theorem jwNew_c {X : jtX} {h : jvA} {nm : Nat → Nat} {i : Nat} (hW : 1 ≤ jtW X i) (hu : ∀ j, j < 16 → ¬ jwU h j → nm j = 0) : (jnF nm 0 (jtW X i) 16 0 = none) ↔ ¬ ∃ j, j < 16 ∧ jwU h j ∧ nm j = jtW X i := by
  rw [jnF_no]
  constructor
  · rintro z ⟨j, h1, h2, h3⟩
    have := z j (by omega) (by omega)
    rw [Nat.zero_add] at this
    exact this h3
  · intro z r _ h2 h3
    rw [Nat.zero_add] at h3
    by_cases y : jwU h r
    · exact z ⟨r, by omega, y, h3⟩
    · have := hu r (by omega) y
      omega
theorem sp_Wo_takeNewName {D : Nat} (hD : 2 ≤ D) {kk : Int32 → jaT → Prop} {τ : jaT} {X : jtX} {h0 : jvA} {nm : Nat → Nat} {k i slot : Nat} (hk : k ≠ 0) (hR : jtR (τ 0) X i) (hn : jcN (τ k) nm) (hu : ∀ j, j < 16 → ¬ jwU h0 j → nm j = 0) (hs : slot < 16)
    (h : ∀ nm', jwNew X h0 nm slot i = .inr nm' → ∀ τ', jtR (τ' 0) X (i + 1) → jcN (τ' k) nm' → (τ' k).1 = (τ k).1 → jcFr k τ τ' → kk (nI 1) τ') (hf : ∀ f p, jwNew X h0 nm slot i = .inl (f, p) → ∀ τ', jtFl (τ' 0) X f p → jcF4 k τ τ' → kk (nI 0) τ') : jaDe D jy_Wo_takeNewName [jcWo k, .inr (.inr (2, 0, 0)), .inl (nI slot)] τ (jaKi kk) := by
  have hK := hR.x
  obtain ⟨D, rfl, hD⟩ := jaSuc hD
  unfold jwNew at h hf
  apply js_Wo_takeNewName
  refine sp_Rd_kind (by omega) hR ?_
  simp (disch := first | omega | decide) only [jaU_eq, jaU_U, nI_add, pk_mul, jaIx_nI, vp_inT, true_and, and_true, ↓jaO0, ↓jaO1, nI_z, nI_z2, nI_z3, nI_z4, nI_z5, nI_lt', nI_le', nI_eq', jaUI_at, jaPt_eq, jaPt_ne, jaUI_o, jaUI_2, jaUL_at, jaUL_o, jaUL_1, jaB_z, jaB_1, ↓jaB_01, Classical.not_not, and_self, true_or, or_true, nI_11, Nat.reduceEqDiff, Nat.reduceAdd, Nat.reduceMul, Nat.add_zero, Nat.zero_add, Nat.mul_zero, not_true_eq_false, not_false_eq_true, false_implies, true_implies]
  refine ⟨fun q => ?_, fun q => ?_⟩
  · rw [jaIf1_t q] at h hf
    have q1 := jtTc_w.mpr (Or.inl q)
    obtain ⟨k1, k2⟩ := jtW_k hR.1 q1
    have hc := jwNew_c (h := h0) (nm := nm) (jtW_pos q1) hu
    refine ⟨fun q => absurd q (by omega), fun _ => ?_⟩
    refine sp_Rd_content (by omega) hR (fun V _ v3 => ?_)
    rw [v3 q]
    refine sp_Wo_slotOf (by omega) hn (by omega) k2 ?_
    rcases ho : jnF nm 0 (jtW X i) 16 0 with _ | r
    · rw [jaIf1_f (hc.mp ho)] at h
      refine ⟨fun _ => ?_, fun z => absurd (show (-1 : Int32) < 0 by decide) z⟩
      refine sp_Rd_content (by omega) hR (fun V2 _ w3 => ?_)
      rw [w3 q]
      have e0 : (jaU τ k (jaUL (τ k) 35 0 slot (Int64.ofNat (jtW X i)))) 0 = τ 0 := jaU_ne (Ne.symm hk)
      refine sp_Rd_step (i := i) (X := X) (by omega) (by rw [e0]; exact hR) (fun S' a b c => ?_)
      rw [e0] at a b
      refine h _ rfl _ (by rw [jaU_eq]; exact c) (fun j hj => ?_) ?_ ⟨fun q a b => by rw [jaU_ne a, jaU_ne b], by rw [jaU_eq]; exact a⟩
      · rw [jaU_ne hk, jaU_eq, jaUL_at]
        unfold jnPt
        by_cases y : j = slot
        · rw [if_pos y]
          exact ⟨if_pos y, k2⟩
        · rw [if_neg y]
          exact ⟨(if_neg y).trans (hn j hj).1, (hn j hj).2⟩
      · rw [jaU_ne hk, jaU_eq, jaUL_1]
    · have hlt := jnF_lt _ _ ho
      rw [jaIf1_t (Classical.not_not.mp (fun z => by rw [hc.mpr z] at ho; cases ho))] at hf
      refine ⟨fun z => absurd z (nI_pos (by omega)), fun _ => ?_⟩
      exact sp_Rd_fail (by omega) hR (fun S' a b c => ⟨Or.inl rfl, hf 3 i rfl _ (by rw [jaU_eq]; exact c) ((jtF2.u a b).c4 hk)⟩)
  · rw [jaIf1_f q] at hf
    exact sp_Rd_fail (by omega) hR (fun S' a b c => ⟨Or.inl rfl, hf 1 i rfl _ (by rw [jaU_eq]; exact c) ((jtF2.u a b).c4 hk)⟩)
end
