section
/-! the class: a SENTENCE, read -/
def jgE (K0 : Nat) (n0 : Nat) (nm : Nat → Nat) (T : jaS) : Prop := jcN T nm ∧ T.1 30 0 0 = nI n0 ∧ T.1 30 0 1 = nI K0
def jgS (X : jtX) (nm : Nat → Nat) (n0 nK k k2 : Nat) (f : jgU → Nat → Sum jwF (jgU × Nat)) (call : (Int32 → jaT → Prop) → jaT → Prop) : Prop :=
  ∀ (kk : Int32 → jaT → Prop) (τ : jaT) (u : jgU) (i : Nat), jtR (τ 0) X i → jgE nK n0 nm (τ k2) → jgC (τ k) u → u.1.length ≤ 2 * u.2 → u.2 ≤ 20 → (∀ u' i', f u i = .inr (u', i') → ∀ τ', jtR (τ' 0) X i' → jgC (τ' k) u' → jcFr k τ τ' → kk (nI 1) τ') → (∀ c p, f u i = .inl (c, p) → ∀ τ', jtFl (τ' 0) X c p → jcFr k τ τ' → kk (nI 0) τ') → call kk τ
set_option maxHeartbeats 1000000 in
theorem sp_Sn_readAll {D : Nat} {X : jtX} {nm : Nat → Nat} {n0 nK k k2 d : Nat} {g : jgU → Nat → Sum jwF (jgU × Nat)} (hD : 2 ≤ D) (hk : k ≠ 0) (hk2 : k2 ≠ 0) (hkk : k2 ≠ k) (hg : jgF g) (H : jgS X nm n0 nK k k2 g (fun kk τ => jaDe D jy_Sn_readOne [jcSn k, .inr (.inr (2, 0, 0)), jcWo k2, .inl (nI d)] τ (jaKi kk))) :
    jgS X nm n0 nK k k2 (fun u i => jwB (g u i) fun y => jgLoop X g 114 21 20 y.1 y.2) (fun kk τ => jaDe (D + 1) jy_Sn_readAll [jcSn k, .inr (.inr (2, 0, 0)), jcWo k2, .inl (nI d)] τ (jaKi kk)) := by
  intro kk τ u i hR hE hC hl ho h h0
  simp only [] at h h0
  have L : ∀ n x u i τ1, x + n = 20 → x + 1 ≤ u.2 → u.2 ≤ 20 → u.1.length + 1 ≤ 2 * u.2 → jtR (τ1 0) X i → jgC (τ1 k) u → jcFr k τ τ1 → (∀ u' i', jgLoop X g 114 21 n u i = .inr (u', i') → ∀ τ', jtR (τ' 0) X i' → jgC (τ' k) u' → jcFr k τ τ' → kk (nI 1) τ') → (∀ c p, jgLoop X g 114 21 n u i = .inl (c, p) → ∀ τ', jtFl (τ' 0) X c p → jcFr k τ τ' → kk (nI 0) τ') → jc_Sn_readAll_2 D kk k k2 (nI d) (nI x) τ1 := by
    intro n
    induction n with
    | zero => intro x u i τ1 hx h1 h2; exact absurd h2 (by omega)
    | succ n ih =>
      intro x u i τ1 hx hxo ho hl hR hC f1 h h0
      have hK := hR.x
      rw [jgLoop] at h h0
      apply jb_Sn_readAll_2
      simp (disch := first | omega | decide) only [jaU_eq, jaU_U, nI_add, pk_mul, jaIx_nI, vp_inT, true_and, and_true, ↓jaO0, ↓jaO1, nI_z, nI_z2, nI_z3, nI_z4, nI_z5, nI_lt', nI_le', nI_eq', jaUI_at, jaPt_eq, jaPt_ne, jaUI_o, jaUI_2, jaUL_at, jaUL_o, jaUL_1, jaB_z, jaB_1, ↓jaB_01, Classical.not_not, and_self, true_or, or_true, nI_11, Nat.reduceEqDiff, Nat.reduceAdd, Nat.reduceMul, Nat.add_zero, Nat.zero_add, Nat.mul_zero, not_true_eq_false, not_false_eq_true, false_implies, true_implies]
      refine ⟨fun z => absurd z (by omega), fun _ => ?_⟩
      refine sp_Rd_kind (by omega) hR ?_
      simp (disch := first | omega | decide) only [jaU_eq, jaU_U, nI_add, pk_mul, jaIx_nI, vp_inT, true_and, and_true, ↓jaO0, ↓jaO1, nI_z, nI_z2, nI_z3, nI_z4, nI_z5, nI_lt', nI_le', nI_eq', jaUI_at, jaPt_eq, jaPt_ne, jaUI_o, jaUI_2, jaUL_at, jaUL_o, jaUL_1, jaB_z, jaB_1, ↓jaB_01, Classical.not_not, and_self, true_or, or_true, nI_11, Nat.reduceEqDiff, Nat.reduceAdd, Nat.reduceMul, Nat.add_zero, Nat.zero_add, Nat.mul_zero, not_true_eq_false, not_false_eq_true, false_implies, true_implies]
      refine ⟨fun q => ?_, fun q => ?_⟩
      · rw [jaIf1_f q] at h
        exact h u i rfl τ1 hR hC f1
      · rw [jaIf1_t q] at h h0
        refine sp_Rd_step (by omega) hR (fun S' s1 s2 s3 => ?_)
        have f2 : jtF2 τ1 (jaU τ1 0 S') := jtF2.u s1 s2
        have ek : (jaU τ1 0 S') k = τ1 k := f2.1 k hk
        have ek2 : (jaU τ1 0 S') k2 = τ k2 := (f2.1 k2 hk2).trans (f1.1 k2 hk2 hkk)
        refine H _ _ u (i + 1) (by rw [jaU_eq]; exact s3) (by rw [ek2]; exact hE) (by rw [ek]; exact hC) (by omega) ho (fun u1 i1 e τ2 a1 a2 a3 => ?_) (fun c p e τ2 a1 a2 => ?_)
        · rw [jwB_i e] at h h0
          obtain ⟨g1, g2, g3⟩ := hg _ _ _ _ e ho
          refine ⟨fun z => absurd z (by decide), fun _ => ?_⟩
          refine sp_Sn_add (w := 21) (a := 0) (b := 0) (u := u1) (by omega) a2 (by omega) (by omega) (fun T' b1 => ?_)
          refine ⟨fun _ => ?_, fun z => absurd z (by decide)⟩
          refine ih (x + 1) (u1.1 ++ [(21, 0, 0)], u1.2) i1 _ (by omega) (show x + 1 + 1 ≤ u1.2 by omega) g2 ?_ ?_ ?_ (f1.trans (f2.c.trans (a3.trans (jcFr.k hk)))) h h0
          · show (u1.1 ++ [(21, 0, 0)]).length + 1 ≤ 2 * u1.2
            rw [List.length_append]
            simp only [List.length_cons, List.length_nil]
            omega
          · rw [jaU_ne (Ne.symm hk)]; exact a1
          · rw [jaU_eq]; exact b1
        · rw [jwB_l e] at h0
          exact ⟨fun _ => h0 c p rfl τ2 a1 (f1.trans (f2.c.trans a2)), fun z => absurd rfl z⟩
  apply js_Sn_readAll
  refine H _ τ u i hR hE hC hl ho (fun u1 i1 e τ1 a1 a2 a3 => ?_) (fun c p e τ1 a1 a2 => ?_)
  · rw [jwB_i e] at h h0
    obtain ⟨g1, g2, g3⟩ := hg _ _ _ _ e ho
    refine ⟨fun _ => ?_, fun z => absurd z (by decide)⟩
    exact L 20 0 u1 i1 τ1 rfl (by omega) g2 (by omega) a1 a2 a3 h h0
  · rw [jwB_l e] at h0
    exact ⟨fun z => absurd rfl z, fun _ => ⟨Or.inl rfl, h0 c p rfl τ1 a1 a2⟩⟩

set_option maxHeartbeats 1000000 in
theorem sp_Sn_readCond {D : Nat} {X : jtX} {nm : Nat → Nat} {n0 nK k k2 d : Nat} {g : jgU → Nat → Sum jwF (jgU × Nat)} (hD : 2 ≤ D) (hk : k ≠ 0) (hk2 : k2 ≠ 0) (hkk : k2 ≠ k) (hg : jgF g) (H : jgS X nm n0 nK k k2 g (fun kk τ => jaDe D jy_Sn_readAll [jcSn k, .inr (.inr (2, 0, 0)), jcWo k2, .inl (nI d)] τ (jaKi kk))) :
    jgS X nm n0 nK k k2 (fun u i => jwB (g u i) fun y => jgLoop X g 113 22 20 y.1 y.2) (fun kk τ => jaDe (D + 1) jy_Sn_readCond [jcSn k, .inr (.inr (2, 0, 0)), jcWo k2, .inl (nI d)] τ (jaKi kk)) := by
  intro kk τ u i hR hE hC hl ho h h0
  simp only [] at h h0
  have L : ∀ n x u i τ1, x + n = 20 → x + 1 ≤ u.2 → u.2 ≤ 20 → u.1.length + 1 ≤ 2 * u.2 → jtR (τ1 0) X i → jgC (τ1 k) u → jcFr k τ τ1 → (∀ u' i', jgLoop X g 113 22 n u i = .inr (u', i') → ∀ τ', jtR (τ' 0) X i' → jgC (τ' k) u' → jcFr k τ τ' → kk (nI 1) τ') → (∀ c p, jgLoop X g 113 22 n u i = .inl (c, p) → ∀ τ', jtFl (τ' 0) X c p → jcFr k τ τ' → kk (nI 0) τ') → jc_Sn_readCond_2 D kk k k2 (nI d) (nI x) τ1 := by
    intro n
    induction n with
    | zero => intro x u i τ1 hx h1 h2; exact absurd h2 (by omega)
    | succ n ih =>
      intro x u i τ1 hx hxo ho hl hR hC f1 h h0
      have hK := hR.x
      rw [jgLoop] at h h0
      apply jb_Sn_readCond_2
      simp (disch := first | omega | decide) only [jaU_eq, jaU_U, nI_add, pk_mul, jaIx_nI, vp_inT, true_and, and_true, ↓jaO0, ↓jaO1, nI_z, nI_z2, nI_z3, nI_z4, nI_z5, nI_lt', nI_le', nI_eq', jaUI_at, jaPt_eq, jaPt_ne, jaUI_o, jaUI_2, jaUL_at, jaUL_o, jaUL_1, jaB_z, jaB_1, ↓jaB_01, Classical.not_not, and_self, true_or, or_true, nI_11, Nat.reduceEqDiff, Nat.reduceAdd, Nat.reduceMul, Nat.add_zero, Nat.zero_add, Nat.mul_zero, not_true_eq_false, not_false_eq_true, false_implies, true_implies]
      refine ⟨fun z => absurd z (by omega), fun _ => ?_⟩
      refine sp_Rd_kind (by omega) hR ?_
      simp (disch := first | omega | decide) only [jaU_eq, jaU_U, nI_add, pk_mul, jaIx_nI, vp_inT, true_and, and_true, ↓jaO0, ↓jaO1, nI_z, nI_z2, nI_z3, nI_z4, nI_z5, nI_lt', nI_le', nI_eq', jaUI_at, jaPt_eq, jaPt_ne, jaUI_o, jaUI_2, jaUL_at, jaUL_o, jaUL_1, jaB_z, jaB_1, ↓jaB_01, Classical.not_not, and_self, true_or, or_true, nI_11, Nat.reduceEqDiff, Nat.reduceAdd, Nat.reduceMul, Nat.add_zero, Nat.zero_add, Nat.mul_zero, not_true_eq_false, not_false_eq_true, false_implies, true_implies]
      refine ⟨fun q => ?_, fun q => ?_⟩
      · rw [jaIf1_f q] at h
        exact h u i rfl τ1 hR hC f1
      · rw [jaIf1_t q] at h h0
        refine sp_Rd_step (by omega) hR (fun S' s1 s2 s3 => ?_)
        have f2 : jtF2 τ1 (jaU τ1 0 S') := jtF2.u s1 s2
        have ek : (jaU τ1 0 S') k = τ1 k := f2.1 k hk
        have ek2 : (jaU τ1 0 S') k2 = τ k2 := (f2.1 k2 hk2).trans (f1.1 k2 hk2 hkk)
        refine H _ _ u (i + 1) (by rw [jaU_eq]; exact s3) (by rw [ek2]; exact hE) (by rw [ek]; exact hC) (by omega) ho (fun u1 i1 e τ2 a1 a2 a3 => ?_) (fun c p e τ2 a1 a2 => ?_)
        · rw [jwB_i e] at h h0
          obtain ⟨g1, g2, g3⟩ := hg _ _ _ _ e ho
          refine ⟨fun z => absurd z (by decide), fun _ => ?_⟩
          refine sp_Sn_add (w := 22) (a := 0) (b := 0) (u := u1) (by omega) a2 (by omega) (by omega) (fun T' b1 => ?_)
          refine ⟨fun _ => ?_, fun z => absurd z (by decide)⟩
          refine ih (x + 1) (u1.1 ++ [(22, 0, 0)], u1.2) i1 _ (by omega) (show x + 1 + 1 ≤ u1.2 by omega) g2 ?_ ?_ ?_ (f1.trans (f2.c.trans (a3.trans (jcFr.k hk)))) h h0
          · show (u1.1 ++ [(22, 0, 0)]).length + 1 ≤ 2 * u1.2
            rw [List.length_append]
            simp only [List.length_cons, List.length_nil]
            omega
          · rw [jaU_ne (Ne.symm hk)]; exact a1
          · rw [jaU_eq]; exact b1
        · rw [jwB_l e] at h0
          exact ⟨fun _ => h0 c p rfl τ2 a1 (f1.trans (f2.c.trans a2)), fun z => absurd rfl z⟩
  apply js_Sn_readCond
  refine H _ τ u i hR hE hC hl ho (fun u1 i1 e τ1 a1 a2 a3 => ?_) (fun c p e τ1 a1 a2 => ?_)
  · rw [jwB_i e] at h h0
    obtain ⟨g1, g2, g3⟩ := hg _ _ _ _ e ho
    refine ⟨fun _ => ?_, fun z => absurd z (by decide)⟩
    exact L 20 0 u1 i1 τ1 rfl (by omega) g2 (by omega) a1 a2 a3 h h0
  · rw [jwB_l e] at h0
    exact ⟨fun z => absurd rfl z, fun _ => ⟨Or.inl rfl, h0 c p rfl τ1 a1 a2⟩⟩
theorem jgKi_s {K : Nat} (h : 116 ≤ K) (h2 : K ≤ 128) : jgKi (K - 116) = K := by
  unfold jgKi
  rw [if_neg (by omega), if_neg (by omega), if_neg (by omega)]
  omega
theorem jgC.o {T : jaS} {u : jgU} (h : jgC T u) : jgC (jaUI T 20 0 1 (nI (u.2 + 1))) (u.1, u.2 + 1) := by
  obtain ⟨c2, c1, cr⟩ := h
  refine ⟨?_, ?_, fun j c hj => ?_⟩
  · show (jaUI T 20 0 1 (nI (u.2 + 1))).1 20 0 2 = nI u.1.length
    rw [jaUI_at, jaPt_ne (by decide)]
    exact c2
  · show (jaUI T 20 0 1 (nI (u.2 + 1))).1 20 0 1 = nI (u.2 + 1)
    rw [jaUI_at, jaPt_eq]
  · rw [jaUI_o (by decide), jaUI_o (by decide), jaUI_o (by decide)]
    exact cr j c hj
set_option maxHeartbeats 4000000 in
theorem sp_Sn_readOne {X : jtX} {nm : Nat → Nat} {n0 nK k k2 : Nat} (hk : k ≠ 0) (hk2 : k2 ≠ 0) (hkk : k2 ≠ k) (h03 : n0 ≤ 3) (hK10 : nK ≤ 10) : ∀ e d D, d + e = 9 → 3 * e + 4 ≤ D → jgS X nm n0 nK k k2 (jgOne X nm n0 nK e) (fun kk τ => jaDe D jy_Sn_readOne [jcSn k, .inr (.inr (2, 0, 0)), jcWo k2, .inl (nI d)] τ (jaKi kk)) := by
  intro e
  induction e with
  | zero =>
    intro d D hde hD kk τ u i hR hE hC hl ho h h0
    have hK := hR.x
    obtain ⟨D, rfl, hD⟩ := jaSuc (show 3 + 1 ≤ D by omega)
    rw [jgOne] at h0
    apply js_Sn_readOne
    refine sp_Rd_kind (by omega) hR ?_
    have N : ¬ (jtK X i = 40 ∨ (115 ≤ jtK X i ∧ jtK X i ≤ 128)) → jc_Sn_readOne_1 D kk k k2 (nI d) (nI (jtK X i)) τ := by
      intro q
      rw [jaIf1_f q] at h0
      apply jb_Sn_readOne_1
      exact sp_Rd_fail (by omega) hR (fun S' a b c => ⟨Or.inl rfl, h0 1 i rfl _ (by rw [jaU_eq]; exact c) (jtF2.u a b).c⟩)
    have Y : (jtK X i = 40 ∨ (115 ≤ jtK X i ∧ jtK X i ≤ 128)) → jc_Sn_readOne_2 D kk k k2 (nI d) (nI (jtK X i)) τ := by
      intro q
      rw [jaIf1_t q] at h0
      have E : jc_Sn_readOne_3 D kk k k2 (nI d) (nI (jtK X i)) τ := by
        apply jb_Sn_readOne_3
        exact sp_Rd_fail (by omega) hR (fun S' a b c => ⟨Or.inl rfl, h0 4 i rfl _ (by rw [jaU_eq]; exact c) (jtF2.u a b).c⟩)
      apply jb_Sn_readOne_2
      refine ⟨fun _ => E, fun _ => ⟨fun z => absurd z (by rw [nI_le' (by omega) (by omega)]; omega), fun _ => E⟩⟩
    simp (disch := first | omega | decide) only [jaU_eq, jaU_U, nI_add, pk_mul, jaIx_nI, vp_inT, true_and, and_true, ↓jaO0, ↓jaO1, nI_z, nI_z2, nI_z3, nI_z4, nI_z5, nI_lt', nI_le', nI_eq', jaUI_at, jaPt_eq, jaPt_ne, jaUI_o, jaUI_2, jaUL_at, jaUL_o, jaUL_1, jaB_z, jaB_1, ↓jaB_01, Classical.not_not, and_self, true_or, or_true, nI_11, Nat.reduceEqDiff, Nat.reduceAdd, Nat.reduceMul, Nat.add_zero, Nat.zero_add, Nat.mul_zero, not_true_eq_false, not_false_eq_true, false_implies, true_implies]
    exact ⟨fun q => Y (by omega), fun q => ⟨fun q2 => N (by omega), fun q2 => ⟨fun q3 => Y (by omega), fun q3 => N (by omega)⟩⟩⟩
  | succ e ih =>
    intro d D hde hD kk τ u i hR hE hC hl ho h h0
    have hK := hR.x
    have hX := hR.1
    obtain ⟨D, rfl, hD⟩ := jaSuc (show (3 * e + 6) + 1 ≤ D by omega)
    rw [jgOne] at h h0
    apply js_Sn_readOne
    refine sp_Rd_kind (by omega) hR ?_
    have N : ¬ (jtK X i = 40 ∨ (115 ≤ jtK X i ∧ jtK X i ≤ 128)) → jc_Sn_readOne_1 D kk k k2 (nI d) (nI (jtK X i)) τ := by
      intro q
      rw [jaIf1_f q] at h0
      apply jb_Sn_readOne_1
      exact sp_Rd_fail (by omega) hR (fun S' a b c => ⟨Or.inl rfl, h0 1 i rfl _ (by rw [jaU_eq]; exact c) (jtF2.u a b).c⟩)
    have Y : (jtK X i = 40 ∨ (115 ≤ jtK X i ∧ jtK X i ≤ 128)) → jc_Sn_readOne_2 D kk k k2 (nI d) (nI (jtK X i)) τ := by
      intro q
      rw [jaIf1_t q] at h h0
      apply jb_Sn_readOne_2
      rw [hC.2.1]
      by_cases q2 : u.2 = 20
      · rw [jaIf1_t q2] at h0
        refine ⟨fun _ => ?_, fun z => absurd (by rw [q2]; decide) z⟩
        apply jb_Sn_readOne_3
        exact sp_Rd_fail (by omega) hR (fun S' a b c => ⟨Or.inl rfl, h0 4 i rfl _ (by rw [jaU_eq]; exact c) (jtF2.u a b).c⟩)
      · rw [jaIf1_f q2] at h h0
        refine ⟨fun z => absurd z (by rw [nI_le' (by omega) (by omega)]; omega), fun _ => ⟨fun _ => ?_, fun z => absurd (by rw [nI_le' (by omega) (by omega)]; omega) z⟩⟩
        simp (disch := first | omega | decide) only [jaU_eq, jaU_U, nI_add, pk_mul, jaIx_nI, vp_inT, true_and, and_true, ↓jaO0, ↓jaO1, nI_z, nI_z2, nI_z3, nI_z4, nI_z5, nI_lt', nI_le', nI_eq', jaUI_at, jaPt_eq, jaPt_ne, jaUI_o, jaUI_2, jaUL_at, jaUL_o, jaUL_1, jaB_z, jaB_1, ↓jaB_01, Classical.not_not, and_self, true_or, or_true, nI_11, Nat.reduceEqDiff, Nat.reduceAdd, Nat.reduceMul, Nat.add_zero, Nat.zero_add, Nat.mul_zero, not_true_eq_false, not_false_eq_true, false_implies, true_implies]
        have C1 := hC.o
        have R1 : jtR ((jaU τ k (jaUI (τ k) 20 0 1 (nI (u.2 + 1)))) 0) X i := by rw [jaU_ne (Ne.symm hk)]; exact hR
        have C2 : jgC ((jaU τ k (jaUI (τ k) 20 0 1 (nI (u.2 + 1)))) k) (u.1, u.2 + 1) := by rw [jaU_eq]; exact C1
        have F1 : jcFr k τ (jaU τ k (jaUI (τ k) 20 0 1 (nI (u.2 + 1)))) := jcFr.k hk
        have E1 : jgE nK n0 nm ((jaU τ k (jaUI (τ k) 20 0 1 (nI (u.2 + 1)))) k2) := by rw [jaU_ne hkk]; exact hE
        generalize jaU τ k (jaUI (τ k) 20 0 1 (nI (u.2 + 1))) = τ1 at *
        refine sp_Rd_step (by omega) R1 (fun S' s1 s2 s3 => ?_)
        have f2 : jtF2 τ1 (jaU τ1 0 S') := jtF2.u s1 s2
        have R2 : jtR ((jaU τ1 0 S') 0) X (i + 1) := by rw [jaU_eq]; exact s3
        have C3 : jgC ((jaU τ1 0 S') k) (u.1, u.2 + 1) := by rw [f2.1 k hk]; exact C2
        have E2 : jgE nK n0 nm ((jaU τ1 0 S') k2) := by rw [f2.1 k2 hk2]; exact E1
        have F2 : jcFr k τ (jaU τ1 0 S') := F1.trans f2.c
        generalize jaU τ1 0 S' = τ2 at *
        have L0 : (u.1, u.2 + 1).1.length ≤ 2 * (u.1, u.2 + 1).2 := by show u.1.length ≤ 2 * (u.2 + 1); omega
        -- leaves
        have LF : ∀ y i', 116 ≤ jtK X i → jgLeaf X nm n0 nK i = .inr (y, i') → y.1 = jtK X i - 116 → ∀ τ3 T', jtR ((jaU τ3 k T') 0) X i' → jgC T' (u.1 ++ [y], u.2 + 1) → jcFr k τ2 τ3 → kk (nI 1) (jaU τ3 k T') := by
          intro y i' q3 e ey τ3 T' b1 b2 b3
          rw [jaIf1_f (by omega), jaIf1_f (by omega), jwB_i e] at h
          exact h _ _ rfl _ b1 (by rw [jaU_eq]; exact b2) (F2.trans (b3.trans (jcFr.k hk)))
        have LN : ∀ c p, 116 ≤ jtK X i → jgLeaf X nm n0 nK i = .inl (c, p) → ∀ τ3, jtFl (τ3 0) X c p → jcFr k τ2 τ3 → kk (nI 0) τ3 := by
          intro c p q3 e τ3 b1 b3
          rw [jaIf1_f (by omega), jaIf1_f (by omega), jwB_l e] at h0
          exact h0 c p rfl τ3 b1 (F2.trans b3)
        have A11 : (jtK X i = 123 ∨ jtK X i = 124) → jc_Sn_readOne_11 D kk k k2 (nI d) (nI (jtK X i)) τ2 := by
          intro q3
          have eL : jgLeaf X nm n0 nK i = jwB (jwNam X nm 3 nK (i + 1)) fun r => .inr ((jtK X i - 116, 0, r), i + 2) := by
            unfold jgLeaf
            rw [jaIf1_f (by omega), jaIf1_t (by omega)]
          apply jb_Sn_readOne_11
          rw [E2.2.2]
          refine sp_Wo_nam (i := i + 1) (X := X) (by omega) R2 E2.1 (by omega) (fun r hr τ3 r1 r2 => ?_) (fun c p hr τ3 r1 r2 => ?_)
          · have lt := (jwNam_r hr).2.1
            rw [jwB_i hr] at eL
            have ekk : nI (jtK X i) = nI (jgKi (jtK X i - 116)) := by rw [jgKi_s (by omega) (by omega)]
            rw [ekk]
            refine sp_Sn_add (a := 0) (b := r) (u := (u.1, u.2 + 1)) (by omega) (by rw [r2.1 k hk]; exact C3) (by show u.1.length < 40; omega) (by omega) (fun T' b1 => ⟨Or.inr rfl, ?_⟩)
            exact LF _ _ (by omega) eL rfl τ3 T' (by rw [jaU_ne (Ne.symm hk)]; exact r1) b1 r2.c
          · rw [jwB_l hr] at eL
            exact sp_Sn_add_n (u := (u.1, u.2 + 1)) (by omega) (by rw [r2.1 k hk]; exact C3) (by show u.1.length < 40; omega) ⟨Or.inl rfl, LN c p (by omega) eL τ3 r1 r2.c⟩
        have A13 : (126 ≤ jtK X i ∧ jtK X i ≤ 128) → jc_Sn_readOne_13 D kk k k2 (nI d) (nI (jtK X i)) τ2 := by
          intro q3
          have eL : jgLeaf X nm n0 nK i = (jaIf1 (60 ≤ jtK X (i + 1) ∧ jtK X (i + 1) ≤ 62) (jaIf1 (jtK X (i + 2) = 2) (.inr ((jtK X i - 116, jtK X (i + 1), jtV X (i + 2)), i + 3)) (.inl (1, i + 2))) (.inl (1, i + 1))) := by
            unfold jgLeaf
            rw [jaIf1_f (by omega), jaIf1_f (by omega), jaIf1_f (by omega)]
          apply jb_Sn_readOne_13
          obtain ⟨D2, rfl, hD2⟩ := jaSuc (show (3 * e + 5) + 1 ≤ D by omega)
          apply js_Sn_readCompared
          refine sp_Rd_takeCompare (by omega) R2 (fun q4 q5 S' t1 t2 t3 => ?_) (fun q4 S' t1 t2 t3 => ?_)
          · have q6 : 60 ≤ jtK X (i + 1) ∧ jtK X (i + 1) ≤ 62 := ⟨q4, q5⟩
            rw [jaIf1_t q6] at eL
            have f3 : jtF2 τ2 (jaU τ2 0 S') := jtF2.u t1 t2
            refine ⟨fun z => absurd z (nI_pos (by omega)), fun _ => ?_⟩
            have C4 : jgC ((jaU τ2 0 S') k) (u.1, u.2 + 1) := by rw [f3.1 k hk]; exact C3
            have R4 : jtR ((jaU τ2 0 S') 0) X (i + 2) := by rw [jaU_eq]; exact t3
            generalize jaU τ2 0 S' = τ3 at *
            have NB : ¬ jtK X (i + 2) = 2 → ∀ S2, jtF (τ3 0) S2 → S2.2 = (τ3 0).2 → jtFl S2 X 1 (i + 2) → kk (nI 0) (jaU τ3 0 S2) := by
              intro q7 S2 w1 w2 w3
              rw [jaIf1_f q7] at eL
              exact LN 1 (i + 2) (by omega) eL _ (by rw [jaU_eq]; exact w3) (f3.c.trans (jtF2.u w1 w2).c)
            refine sp_Rd_takeNumber (by omega) R4 (by omega) (by omega) (fun q7 _ _ S2 w1 w2 w3 => ?_) (fun q7 z => absurd ⟨Nat.zero_le _, by have := jtV_lt hX q7; omega⟩ z) (fun q7 S2 w1 w2 w3 => ?_)
            · rw [jaIf1_t q7] at eL
              have hv := jtV_lt hX q7
              have f4 : jtF2 τ3 (jaU τ3 0 S2) := jtF2.u w1 w2
              have ekk : nI (jtK X i) = nI (jgKi (jtK X i - 116)) := by rw [jgKi_s (by omega) (by omega)]
              rw [ekk]
              refine sp_Sn_add (u := (u.1, u.2 + 1)) (by omega) (by rw [f4.1 k hk]; exact C4) (by show u.1.length < 40; omega) hv (fun T' b1 => ⟨fun z => absurd z (by decide), fun _ => ⟨Or.inr rfl, ⟨Or.inr rfl, ?_⟩⟩⟩)
              exact LF _ _ (by omega) eL rfl _ T' (by rw [jaU_ne (Ne.symm hk), jaU_eq]; exact w3) b1 (f3.c.trans f4.c)
            · have f4 : jtF2 τ3 (jaU τ3 0 S2) := jtF2.u w1 w2
              exact sp_Sn_add_n (u := (u.1, u.2 + 1)) (by omega) (by rw [f4.1 k hk]; exact C4) (by show u.1.length < 40; omega) ⟨fun _ => ⟨Or.inl rfl, ⟨Or.inl rfl, NB q7 S2 w1 w2 w3⟩⟩, fun z => absurd rfl z⟩
          · have q6 : ¬ (60 ≤ jtK X (i + 1) ∧ jtK X (i + 1) ≤ 62) := q4
            rw [jaIf1_f q6] at eL
            have f3 : jtF2 τ2 (jaU τ2 0 S') := jtF2.u t1 t2
            exact ⟨fun _ => ⟨Or.inl rfl, ⟨Or.inl rfl, LN 1 (i + 1) (by omega) eL _ (by rw [jaU_eq]; exact t3) f3.c⟩⟩, fun z => absurd (by decide) z⟩
        refine ⟨fun q3 => ?_, fun q3 => ?_, fun q3 => ?_, fun q3 => A11 (Or.inl q3), fun q3 => A11 (Or.inr q3), fun q3 => ?_, fun q3 => A13 (by omega), fun q3 => A13 (by omega), fun q3 => A13 (by omega)⟩
        · -- one word
          obtain ⟨y1, y2, y3, y4, y5, y6, y7, y8⟩ := q3
          have eL : jgLeaf X nm n0 nK i = .inr ((jtK X i - 116, 0, 0), i + 1) := by
            unfold jgLeaf
            rw [jaIf1_t (by omega)]
          have ekk : nI (jtK X i) = nI (jgKi (jtK X i - 116)) := by rw [jgKi_s (by omega) (by omega)]
          rw [ekk]
          refine sp_Sn_add (u := (u.1, u.2 + 1)) (by omega) C3 (by show u.1.length < 40; omega) (by omega) (fun T' b1 => ⟨Or.inr rfl, ?_⟩)
          exact LF _ _ (by omega) eL rfl τ2 T' (by rw [jaU_ne (Ne.symm hk)]; exact R2) b1 jcFr.rfl
        · -- a bracket
          rw [jaIf1_t q3] at h h0
          obtain ⟨D2, rfl, hD2⟩ := jaSuc (show (3 * e + 5) + 1 ≤ D by omega)
          obtain ⟨D3, rfl, hD3⟩ := jaSuc (show (3 * e + 4) + 1 ≤ D2 by omega)
          have H1 := sp_Sn_readAll (X := X) (nm := nm) (n0 := n0) (nK := nK) (k := k) (k2 := k2) (d := d + 1) (g := jgOne X nm n0 nK e) (by omega) hk hk2 hkk (jgOne_r e) (ih (d + 1) D3 (by omega) (by omega))
          have H2 := sp_Sn_readCond (g := jgAnd X (jgOne X nm n0 nK e)) (d := d + 1) (by omega) hk hk2 hkk (jgAnd_r (jgOne_r e)) H1
          refine H2 _ τ2 (u.1, u.2 + 1) (i + 1) R2 E2 C3 L0 (show u.2 + 1 ≤ 20 by omega) (fun u1 i1 e1 τ3 a1 a2 a3 => ?_) (fun c p e1 τ3 a1 a2 => ?_)
          · rw [jwB_i (show jgOr X (jgOne X nm n0 nK e) (u.1, u.2 + 1) (i + 1) = Sum.inr (u1, i1) from e1)] at h h0
            refine ⟨fun z => absurd z (by decide), fun _ => ?_⟩
            refine sp_Rd_take (c := 41) (by omega) a1 (by omega) (fun q2 S' t1 t2 t3 => ?_) (fun q2 S' t1 t2 t3 => ?_)
            · rw [jaIf1_t q2] at h
              have f3 : jtF2 τ3 (jaU τ3 0 S') := jtF2.u t1 t2
              refine ⟨fun z => absurd z (by decide), fun _ => ?_⟩
              apply jb_Sn_readOne_7
              exact ⟨Or.inr rfl, h u1 (i1 + 1) rfl _ (by rw [jaU_eq]; exact t3) (by rw [f3.1 k hk]; exact a2) (F2.trans (a3.trans f3.c))⟩
            · rw [jaIf1_f q2] at h0
              have f3 : jtF2 τ3 (jaU τ3 0 S') := jtF2.u t1 t2
              refine ⟨fun _ => ?_, fun z => absurd rfl z⟩
              apply jb_Sn_readOne_6
              apply jb_Sn_readOne_7
              exact ⟨Or.inl rfl, h0 1 i1 rfl _ (by rw [jaU_eq]; exact t3) (F2.trans (a3.trans f3.c))⟩
          · rw [jwB_l (show jgOr X (jgOne X nm n0 nK e) (u.1, u.2 + 1) (i + 1) = Sum.inl (c, p) from e1)] at h0
            refine ⟨fun _ => ?_, fun z => absurd rfl z⟩
            apply jb_Sn_readOne_6
            apply jb_Sn_readOne_7
            exact ⟨Or.inl rfl, h0 c p rfl τ3 a1 (F2.trans a2)⟩
        · -- not
          rw [jaIf1_f (by omega), jaIf1_t q3] at h h0
          refine ih (d + 1) D (by omega) (by omega) _ τ2 (u.1, u.2 + 1) (i + 1) R2 E2 C3 L0 (show u.2 + 1 ≤ 20 by omega) (fun u1 i1 e1 τ3 a1 a2 a3 => ?_) (fun c p e1 τ3 a1 a2 => ?_)
          · rw [jwB_i e1] at h
            obtain ⟨g1, g2, g3⟩ := jgOne_r e _ _ _ _ e1 (show u.2 + 1 ≤ 20 by omega)
            have g3 : u1.1.length + 1 + 2 * (u.2 + 1) ≤ u.1.length + 2 * u1.2 := g3
            refine ⟨fun z => absurd z (by decide), fun _ => ?_⟩
            refine sp_Sn_add (w := 20) (a := 0) (b := 0) (u := u1) (by omega) a2 (by omega) (by omega) (fun T' b1 => ?_)
            refine ⟨fun z => absurd z (by decide), fun _ => ?_⟩
            apply jb_Sn_readOne_10
            exact ⟨Or.inr rfl, h _ _ rfl _ (by rw [jaU_ne (Ne.symm hk)]; exact a1) (by rw [jaU_eq]; exact b1) (F2.trans (a3.trans (jcFr.k hk)))⟩
          · rw [jwB_l e1] at h0
            refine ⟨fun _ => ?_, fun z => absurd rfl z⟩
            apply jb_Sn_readOne_9
            apply jb_Sn_readOne_10
            exact ⟨Or.inl rfl, h0 c p rfl τ3 a1 (F2.trans a2)⟩
        · -- from a SITE
          have eL : jgLeaf X nm n0 nK i = jwB (jwNam X nm 0 n0 (i + 1)) fun r => .inr ((9, 0, r), i + 2) := by
            unfold jgLeaf
            rw [jaIf1_f (by omega), jaIf1_f (by omega), jaIf1_t q3]
          rw [E2.2.1]
          refine sp_Wo_nam (i := i + 1) (X := X) (by omega) R2 E2.1 (by omega) (fun r hr τ3 r1 r2 => ?_) (fun c p hr τ3 r1 r2 => ?_)
          · have lt := (jwNam_r hr).2.1
            rw [jwB_i hr] at eL
            have ekk : nI (jtK X i) = nI (jgKi 9) := by rw [q3]; rfl
            rw [ekk]
            refine sp_Sn_add (a := 0) (b := r) (u := (u.1, u.2 + 1)) (by omega) (by rw [r2.1 k hk]; exact C3) (by show u.1.length < 40; omega) (by omega) (fun T' b1 => ⟨Or.inr rfl, ?_⟩)
            exact LF _ _ (by omega) eL (by show 9 = jtK X i - 116; omega) τ3 T' (by rw [jaU_ne (Ne.symm hk)]; exact r1) b1 r2.c
          · rw [jwB_l hr] at eL
            exact sp_Sn_add_n (u := (u.1, u.2 + 1)) (by omega) (by rw [r2.1 k hk]; exact C3) (by show u.1.length < 40; omega) ⟨Or.inl rfl, LN c p (by omega) eL τ3 r1 r2.c⟩
    simp (disch := first | omega | decide) only [jaU_eq, jaU_U, nI_add, pk_mul, jaIx_nI, vp_inT, true_and, and_true, ↓jaO0, ↓jaO1, nI_z, nI_z2, nI_z3, nI_z4, nI_z5, nI_lt', nI_le', nI_eq', jaUI_at, jaPt_eq, jaPt_ne, jaUI_o, jaUI_2, jaUL_at, jaUL_o, jaUL_1, jaB_z, jaB_1, ↓jaB_01, Classical.not_not, and_self, true_or, or_true, nI_11, Nat.reduceEqDiff, Nat.reduceAdd, Nat.reduceMul, Nat.add_zero, Nat.zero_add, Nat.mul_zero, not_true_eq_false, not_false_eq_true, false_implies, true_implies]
    exact ⟨fun q => Y (by omega), fun q => ⟨fun q2 => N (by omega), fun q2 => ⟨fun q3 => Y (by omega), fun q3 => N (by omega)⟩⟩⟩
theorem sp_Sn_read {D : Nat} (hD : 32 ≤ D) {kk : Int32 → jaT → Prop} {τ : jaT} {X : jtX} {nm : Nat → Nat} {n0 nK k k2 : Nat} (hk : k ≠ 0) (hk2 : k2 ≠ 0) (hkk : k2 ≠ k) (h03 : n0 ≤ 3) (hK10 : nK ≤ 10) (hR : jtR (τ 0) X 0) (hE : jgE nK n0 nm (τ k2))
    (h : ∀ u, jgAll X nm n0 nK = .inr u → ∀ τ', jgC (τ' k) u → (τ' k).1 20 0 0 = nI 1 → jcFr k τ τ' → kk (nI 1) τ')
    (h0 : ∀ c p, jgAll X nm n0 nK = .inl (c, p) → ∀ τ', jtFl (τ' 0) X c p → jcFr k τ τ' → kk (nI 0) τ') :
    jaDe D jy_Sn_read [jcSn k, .inr (.inr (2, 0, 0)), jcWo k2] τ (jaKi kk) := by
  obtain ⟨D, rfl, hD⟩ := jaSuc hD
  obtain ⟨D2, rfl, hD2⟩ := jaSuc (show 30 + 1 ≤ D by omega)
  obtain ⟨D3, rfl, hD3⟩ := jaSuc (show 29 + 1 ≤ D2 by omega)
  have H0 := sp_Sn_readOne (X := X) (nm := nm) (n0 := n0) (nK := nK) hk hk2 hkk h03 hK10 8 1 D3 rfl (by omega)
  have H1 := sp_Sn_readAll (by omega) hk hk2 hkk (jgOne_r 8) H0
  have H2 := sp_Sn_readCond (g := jgAnd X (jgOne X nm n0 nK 8)) (d := 1) (by omega) hk hk2 hkk (jgAnd_r (jgOne_r 8)) H1
  unfold jgAll at h h0
  apply js_Sn_read
  apply js_Sn_forget
  simp (disch := first | omega | decide) only [jaU_eq, jaU_U, nI_add, pk_mul, jaIx_nI, vp_inT, true_and, and_true, ↓jaO0, ↓jaO1, nI_z, nI_z2, nI_z3, nI_z4, nI_z5, nI_lt', nI_le', nI_eq', jaUI_at, jaPt_eq, jaPt_ne, jaUI_o, jaUI_2, jaUL_at, jaUL_o, jaUL_1, jaB_z, jaB_1, ↓jaB_01, Classical.not_not, and_self, true_or, or_true, nI_11, Nat.reduceEqDiff, Nat.reduceAdd, Nat.reduceMul, Nat.add_zero, Nat.zero_add, Nat.mul_zero, not_true_eq_false, not_false_eq_true, false_implies, true_implies]
  have C1 : jgC (jaUI (jaUI (jaUI (τ k) 20 0 0 (nI 0)) 20 0 1 (nI 0)) 20 0 2 (nI 0)) ([], 0) := by
    refine ⟨?_, ?_, fun j c hj => ?_⟩
    · simp (disch := first | omega | decide) only [jaU_eq, jaU_U, nI_add, pk_mul, jaIx_nI, vp_inT, true_and, and_true, ↓jaO0, ↓jaO1, nI_z, nI_z2, nI_z3, nI_z4, nI_z5, nI_lt', nI_le', nI_eq', jaUI_at, jaPt_eq, jaPt_ne, jaUI_o, jaUI_2, jaUL_at, jaUL_o, jaUL_1, jaB_z, jaB_1, ↓jaB_01, Classical.not_not, and_self, true_or, or_true, nI_11, Nat.reduceEqDiff, Nat.reduceAdd, Nat.reduceMul, Nat.add_zero, Nat.zero_add, Nat.mul_zero, not_true_eq_false, not_false_eq_true, false_implies, true_implies]
      rfl
    · simp (disch := first | omega | decide) only [jaU_eq, jaU_U, nI_add, pk_mul, jaIx_nI, vp_inT, true_and, and_true, ↓jaO0, ↓jaO1, nI_z, nI_z2, nI_z3, nI_z4, nI_z5, nI_lt', nI_le', nI_eq', jaUI_at, jaPt_eq, jaPt_ne, jaUI_o, jaUI_2, jaUL_at, jaUL_o, jaUL_1, jaB_z, jaB_1, ↓jaB_01, Classical.not_not, and_self, true_or, or_true, nI_11, Nat.reduceEqDiff, Nat.reduceAdd, Nat.reduceMul, Nat.add_zero, Nat.zero_add, Nat.mul_zero, not_true_eq_false, not_false_eq_true, false_implies, true_implies]
    · cases hj
  refine H2 _ _ ([], 0) 0 ?_ ?_ ?_ (Nat.zero_le _) (Nat.zero_le _) (fun u1 i1 e1 τ3 a1 a2 a3 => ?_) (fun c p e1 τ3 a1 a2 => ?_)
  · rw [jaU_ne (Ne.symm hk)]; exact hR
  · rw [jaU_ne hkk]; exact hE
  · rw [jaU_eq]; exact C1
  · rw [jwB_i (show jgOr X (jgOne X nm n0 nK 8) ([], 0) 0 = Sum.inr (u1, i1) from e1)] at h h0
    refine ⟨fun z => absurd z (by decide), fun _ => ?_⟩
    refine sp_Rd_take (c := 1) (by omega) a1 (by omega) (fun q2 S' t1 t2 t3 => ?_) (fun q2 S' t1 t2 t3 => ?_)
    · rw [jaIf1_t q2] at h
      have f3 : jtF2 τ3 (jaU τ3 0 S') := jtF2.u t1 t2
      refine ⟨fun _ => ?_, fun z => absurd z (by decide)⟩
      refine h u1 rfl _ ?_ ?_ ((jcFr.k hk).trans (a3.trans (f3.c.trans (jcFr.k hk))))
      · rw [jaU_eq, f3.1 k hk]
        obtain ⟨c2, c1, cr⟩ := a2
        refine ⟨?_, ?_, fun j c hj => ?_⟩
        · rw [jaUI_at, jaPt_ne (by decide)]; exact c2
        · rw [jaUI_at, jaPt_ne (by decide)]; exact c1
        · rw [jaUI_o (by decide), jaUI_o (by decide), jaUI_o (by decide)]; exact cr j c hj
      · rw [jaU_eq, jaUI_at, jaPt_eq]
    · rw [jaIf1_f q2] at h0
      have f3 : jtF2 τ3 (jaU τ3 0 S') := jtF2.u t1 t2
      exact ⟨fun z => absurd rfl z, fun _ => h0 1 i1 rfl _ (by rw [jaU_eq]; exact t3) ((jcFr.k hk).trans (a3.trans f3.c))⟩
  · rw [jwB_l (show jgOr X (jgOne X nm n0 nK 8) ([], 0) 0 = Sum.inl (c, p) from e1)] at h0
    exact ⟨fun _ => h0 c p rfl τ3 a1 ((jcFr.k hk).trans a2), fun z => absurd rfl z⟩
end
