section
/-! a BOOK, read -/
abbrev jbY : Type := Nat × Nat × Nat
noncomputable def jbLine (X : jtX) (nm : Nat → Nat) (n0 n2 cnt i : Nat) : Sum jwF (jbY × Nat) :=
  jaIf1 (109 ≤ jtK X i ∧ jtK X i ≤ 112) (jaIf1 (cnt = 40) (.inl (4, i)) (jaIf1 (jtK X i = 110) (.inr ((1, 0, 0), i + 1)) (jaIf1 (jtK X i = 109) (jwB (jwNam X nm 0 n0 (i + 1)) fun a => jwB (jwNum X 0 23 (i + 2)) fun b => .inr ((0, a, b), i + 3)) (jaIf1 (jtK X i = 111) (jwB (jwNam X nm 13 n2 (i + 1)) fun a => .inr ((2, a, 0), i + 2)) (jwB (jwNum X 1 60 (i + 1)) fun a => .inr ((3, a, 0), i + 2)))))) (.inl (1, i))
def jbUp (ls : Nat → jbY) (n : Nat) (y : jbY) : Nat → jbY := fun j => if j = n then y else ls j
noncomputable def jbAll (X : jtX) (nm : Nat → Nat) (n0 n2 : Nat) : Nat → (Nat → jbY) → Nat → Nat → Sum jwF ((Nat → jbY) × Nat)
  | 0, _, _, _ => .inl (0, 0)
  | m + 1, ls, cnt, i => jaIf1 (jtK X i = 1) (.inr (ls, cnt)) (jwB (jbLine X nm n0 n2 cnt i) fun y => jaIf1 (jtK X y.2 = 59) (jbAll X nm n0 n2 m (jbUp ls cnt y.1) (cnt + 1) (y.2 + 1)) (.inl (1, y.2)))
def jbOk (n0 n2 : Nat) (y : jbY) : Prop := y.1 ≤ 3 ∧ (y.1 = 0 → y.2.1 < n0 ∧ y.2.2 < 24) ∧ (y.1 = 2 → y.2.1 < n2) ∧ (y.1 = 3 → 1 ≤ y.2.1 ∧ y.2.1 ≤ 60) ∧ y.2.1 < 1000 ∧ y.2.2 < 1000
theorem jbLine_r {X : jtX} {nm : Nat → Nat} {n0 n2 cnt i i' : Nat} {y : jbY} (h03 : n0 ≤ 3) (h23 : n2 ≤ 3) (h : jbLine X nm n0 n2 cnt i = .inr (y, i')) : jbOk n0 n2 y ∧ cnt ≠ 40 := by
  unfold jbLine at h
  by_cases q : 109 ≤ jtK X i ∧ jtK X i ≤ 112
  · rw [jaIf1_t q] at h
    by_cases q0 : cnt = 40
    · rw [jaIf1_t q0] at h; cases h
    · rw [jaIf1_f q0] at h
      refine ⟨?_, q0⟩
      by_cases q1 : jtK X i = 110
      · rw [jaIf1_t q1] at h
        cases h
        exact ⟨by decide, fun z => absurd (show (1 : Nat) = 0 from z) (by decide), fun z => absurd (show (1 : Nat) = 2 from z) (by decide), fun z => absurd (show (1 : Nat) = 3 from z) (by decide), by decide, by decide⟩
      · rw [jaIf1_f q1] at h
        by_cases q2 : jtK X i = 109
        · rw [jaIf1_t q2] at h
          obtain ⟨a, e1, e2⟩ := jwB_r h
          obtain ⟨b, e3, e4⟩ := jwB_r e2
          cases e4
          have r1 := (jwNam_r e1).2.1
          have r2 := (jwNum_r e3).2.2.2
          exact ⟨show 0 ≤ 3 by decide, fun _ => ⟨r1, show b < 24 by omega⟩, fun z => absurd (show (0 : Nat) = 2 from z) (by decide), fun z => absurd (show (0 : Nat) = 3 from z) (by decide), show a < 1000 by omega, show b < 1000 by omega⟩
        · rw [jaIf1_f q2] at h
          by_cases q3 : jtK X i = 111
          · rw [jaIf1_t q3] at h
            obtain ⟨a, e1, e2⟩ := jwB_r h
            cases e2
            have r1 := (jwNam_r e1).2.1
            exact ⟨show 2 ≤ 3 by decide, fun z => absurd (show (2 : Nat) = 0 from z) (by decide), fun _ => r1, fun z => absurd (show (2 : Nat) = 3 from z) (by decide), show a < 1000 by omega, show 0 < 1000 by decide⟩
          · rw [jaIf1_f q3] at h
            obtain ⟨a, e1, e2⟩ := jwB_r h
            cases e2
            have r1 := (jwNum_r e1).2.2
            exact ⟨show 3 ≤ 3 by decide, fun z => absurd (show (3 : Nat) = 0 from z) (by decide), fun z => absurd (show (3 : Nat) = 2 from z) (by decide), fun _ => ⟨r1.1, r1.2⟩, show a < 1000 by omega, show 0 < 1000 by decide⟩
  · rw [jaIf1_f q] at h; cases h
theorem jbAll_r {X : jtX} {nm : Nat → Nat} {n0 n2 : Nat} (h03 : n0 ≤ 3) (h23 : n2 ≤ 3) {ls' : Nat → jbY} {n' : Nat} : ∀ m ls cnt i, cnt + m = 41 → jbAll X nm n0 n2 m ls cnt i = .inr (ls', n') → (∀ j, j < cnt → jbOk n0 n2 (ls j)) → n' ≤ 40 ∧ ∀ j, j < n' → jbOk n0 n2 (ls' j)
  | 0, ls, cnt, i, _, h, _ => by cases h
  | m + 1, ls, cnt, i, hm, h, hl => by
    rw [jbAll] at h
    by_cases q : jtK X i = 1
    · rw [jaIf1_t q] at h
      cases h
      exact ⟨by omega, hl⟩
    · rw [jaIf1_f q] at h
      obtain ⟨⟨y, i1⟩, e1, e2⟩ := jwB_r h
      obtain ⟨k1, k2⟩ := jbLine_r h03 h23 e1
      by_cases q2 : jtK X i1 = 59
      · rw [jaIf1_t q2] at e2
        refine jbAll_r h03 h23 m _ (cnt + 1) (i1 + 1) (by omega) e2 (fun j hj => ?_)
        unfold jbUp
        by_cases z : j = cnt
        · rw [if_pos z]; exact k1
        · rw [if_neg z]; exact hl j (by omega)
      · rw [jaIf1_f q2] at e2; cases e2
/-- sorts of a book, beside those of the reader -/
def jbF (τ τ' : jaT) : Prop := (∀ q, q ≠ 0 → τ' q = τ q) ∧ ∀ o, o < 2 ∨ 10 ≤ o → (τ' 0).1 o = (τ 0).1 o
theorem jbF.rfl {τ : jaT} : jbF τ τ := ⟨fun _ _ => Eq.refl _, fun _ _ => Eq.refl _⟩
theorem jbF.trans {τ τ' τ'' : jaT} (h : jbF τ τ') (h' : jbF τ' τ'') : jbF τ τ'' := ⟨fun q a => (h'.1 q a).trans (h.1 q a), fun o ho => (h'.2 o ho).trans (h.2 o ho)⟩
theorem jtF2.b {τ τ' : jaT} (h : jtF2 τ τ') : jbF τ τ' := ⟨h.1, fun o ho => h.2.1 o (by omega)⟩
theorem jtR.o {S S' : jaS} {X : jtX} {i : Nat} (h : jtR S X i) (h2 : S'.1 2 = S.1 2) (h3 : S'.1 3 = S.1 3) (h4 : S'.1 4 = S.1 4) (h5 : S'.2 = S.2) : jtR S' X i :=
  h.st h3 h4 h5 (by rw [h2]) (fun N _ b _ => by rw [h2]; exact b)
set_option maxHeartbeats 2000000 in
theorem sp_Bo_readLine {D : Nat} (hD : 3 ≤ D) {kk : Int32 → jaT → Prop} {τ : jaT} {X : jtX} {nm : Nat → Nat} {k i n0 n2 cnt : Nat} (hk : k ≠ 0) (hR : jtR (τ 0) X i) (hn : jcN (τ k) nm) (h30 : (τ k).1 30 0 0 = nI n0) (h32 : (τ k).1 30 0 2 = nI n2) (h03 : n0 ≤ 3) (h23 : n2 ≤ 3) (hc : (τ 0).1 6 0 0 = nI cnt) (hc4 : cnt ≤ 40)
    (h : ∀ y i', jbLine X nm n0 n2 cnt i = .inr (y, i') → ∀ τ', jtR (τ' 0) X i' → (τ' 0).1 6 = (τ 0).1 6 → (τ' 0).1 7 0 = jaPt ((τ 0).1 7 0) cnt (nI (109 + y.1)) → (τ' 0).1 8 0 = jaPt ((τ 0).1 8 0) cnt (nI y.2.1) → (τ' 0).1 9 0 = jaPt ((τ 0).1 9 0) cnt (nI y.2.2) → jbF τ τ' → kk (nI 1) τ')
    (h0 : ∀ c p, jbLine X nm n0 n2 cnt i = .inl (c, p) → ∀ τ', jtFl (τ' 0) X c p → jbF τ τ' → kk (nI 0) τ') :
    jaDe D jy_Bo_readLine [.inr (.inr (6, 0, 0)), .inr (.inr (2, 0, 0)), jcWo k] τ (jaKi kk) := by
  have hK := hR.x
  have n1 : ¬ (0 : Int32) ≤ -1 := by decide
  have n2' : (-1 : Int32) < 0 := by decide
  obtain ⟨D, rfl, hD⟩ := jaSuc hD
  -- the row
  have W : ∀ a b τ1, jtF2 τ τ1 → cnt < 40 → ∀ x4 x5, ((x4 = nI a ∧ x5 = nI b ∧ a < 1000 ∧ b < 1000) → kk (nI 1) (jaU τ1 0 (jaUI (jaUI (jaUI (τ1 0) 7 0 cnt (nI (jtK X i))) 8 0 cnt x4) 9 0 cnt x5))) → ((x4 = -1 ∨ x5 = -1) → (x4 = -1 ∨ x4 = nI a ∧ a < 1000) → (x5 = -1 ∨ x5 = nI b ∧ b < 1000) → kk (nI 0) (jaU τ1 0 (jaUI (jaUI (jaUI (τ1 0) 7 0 cnt (nI (jtK X i))) 8 0 cnt x4) 9 0 cnt x5))) → ((x4 = -1 ∨ x4 = nI a ∧ a < 1000) ∧ (x5 = -1 ∨ x5 = nI b ∧ b < 1000)) → jc_Bo_readLine_7 D kk k (nI (jtK X i)) x4 x5 τ1 := by
    intro a b τ1 f1 c4 x4 x5 y1 y0 hx
    have z6 : (τ1 0).1 6 0 0 = nI cnt := by rw [f1.2.1 6 (by omega)]; exact hc
    apply jb_Bo_readLine_7
    simp (disch := first | omega | decide) only [jaU_eq, jaU_U, nI_add, pk_mul, jaIx_nI, vp_inT, true_and, and_true, ↓jaO0, ↓jaO1, nI_z, nI_z2, nI_z3, nI_z4, nI_z5, nI_lt', nI_le', nI_eq', jaUI_at, jaPt_eq, jaPt_ne, jaUI_o, jaUI_2, jaUL_at, jaUL_o, jaUL_1, jaB_z, jaB_1, ↓jaB_01, Classical.not_not, and_self, true_or, or_true, nI_11, Nat.reduceEqDiff, Nat.reduceAdd, Nat.reduceMul, Nat.add_zero, Nat.zero_add, Nat.mul_zero, not_true_eq_false, not_false_eq_true, false_implies, true_implies, z6]
    rcases hx with ⟨rfl | ⟨rfl, ha⟩, rfl | ⟨rfl, hb⟩⟩
    · refine ⟨fun _ => ?_, fun z => absurd n2' z⟩
      apply jb_Bo_readLine_8
      apply jb_Bo_readLine_9
      exact ⟨Or.inl rfl, y0 (Or.inl rfl) (Or.inl rfl) (Or.inl rfl)⟩
    · refine ⟨fun _ => ?_, fun z => absurd n2' z⟩
      apply jb_Bo_readLine_8
      apply jb_Bo_readLine_9
      exact ⟨Or.inl rfl, y0 (Or.inl rfl) (Or.inl rfl) (Or.inr ⟨rfl, hb⟩)⟩
    · refine ⟨fun z => absurd z (nI_pos (by omega)), fun _ => ⟨fun _ => ?_, fun z => absurd n2' z⟩⟩
      apply jb_Bo_readLine_8
      apply jb_Bo_readLine_9
      exact ⟨Or.inl rfl, y0 (Or.inr rfl) (Or.inr ⟨rfl, ha⟩) (Or.inl rfl)⟩
    · refine ⟨fun z => absurd z (nI_pos (by omega)), fun _ => ⟨fun z => absurd z (nI_pos (by omega)), fun _ => ?_⟩⟩
      apply jb_Bo_readLine_9
      exact ⟨Or.inr rfl, y1 ⟨rfl, rfl, ha, hb⟩⟩
  have FW : ∀ τ1, jtF2 τ τ1 → ∀ x3 x4 x5, jbF τ (jaU τ1 0 (jaUI (jaUI (jaUI (τ1 0) 7 0 cnt x3) 8 0 cnt x4) 9 0 cnt x5)) := fun τ1 f1 x3 x4 x5 => ⟨fun q hq => by rw [jaU_ne hq]; exact f1.1 q hq, fun o ho => by
    rw [jaU_eq, jaUI_o (by omega), jaUI_o (by omega), jaUI_o (by omega)]
    exact f1.2.1 o (by omega)⟩
  have OK : ∀ t a b i' τ1, jbLine X nm n0 n2 cnt i = .inr ((t, a, b), i') → jtF2 τ τ1 → jtR (τ1 0) X i' → jtK X i = 109 + t → kk (nI 1) (jaU τ1 0 (jaUI (jaUI (jaUI (τ1 0) 7 0 cnt (nI (jtK X i))) 8 0 cnt (nI a)) 9 0 cnt (nI b))) := by
    intro t a b i' τ1 e f1 r1 ek
    refine h _ _ e _ ?_ ?_ ?_ ?_ ?_ (FW τ1 f1 _ _ _)
    · rw [jaU_eq]
      exact r1.o (by rw [jaUI_o (by decide), jaUI_o (by decide), jaUI_o (by decide)]) (by rw [jaUI_o (by decide), jaUI_o (by decide), jaUI_o (by decide)]) (by rw [jaUI_o (by decide), jaUI_o (by decide), jaUI_o (by decide)]) rfl
    · rw [jaU_eq, jaUI_o (by decide), jaUI_o (by decide), jaUI_o (by decide)]; exact f1.2.1 6 (by omega)
    · rw [jaU_eq, jaUI_o (by decide), jaUI_o (by decide), jaUI_at, f1.2.1 7 (by omega), ek]
    · rw [jaU_eq, jaUI_o (by decide), jaUI_at, jaUI_o (by decide), f1.2.1 8 (by omega)]
    · rw [jaU_eq, jaUI_at, jaUI_o (by decide), jaUI_o (by decide), f1.2.1 9 (by omega)]
  have NO : ∀ c p τ1 x4 x5, jbLine X nm n0 n2 cnt i = .inl (c, p) → jtF2 τ τ1 → jtFl (τ1 0) X c p → kk (nI 0) (jaU τ1 0 (jaUI (jaUI (jaUI (τ1 0) 7 0 cnt (nI (jtK X i))) 8 0 cnt x4) 9 0 cnt x5)) := by
    intro c p τ1 x4 x5 e f1 r1
    refine h0 c p e _ ?_ (FW τ1 f1 _ _ _)
    rw [jaU_eq]
    unfold jtFl
    rw [jaUI_o (by decide), jaUI_o (by decide), jaUI_o (by decide)]
    exact r1
  have L1 : (109 ≤ jtK X i ∧ jtK X i ≤ 112) → jc_Bo_readLine_1 D kk k (nI (jtK X i)) τ := by
    intro q
    unfold jbLine at OK NO h h0
    rw [jaIf1_t q] at OK NO h h0
    apply jb_Bo_readLine_1
    simp (disch := first | omega | decide) only [jaU_eq, jaU_U, nI_add, pk_mul, jaIx_nI, vp_inT, true_and, and_true, ↓jaO0, ↓jaO1, nI_z, nI_z2, nI_z3, nI_z4, nI_z5, nI_lt', nI_le', nI_eq', jaUI_at, jaPt_eq, jaPt_ne, jaUI_o, jaUI_2, jaUL_at, jaUL_o, jaUL_1, jaB_z, jaB_1, ↓jaB_01, Classical.not_not, and_self, true_or, or_true, nI_11, Nat.reduceEqDiff, Nat.reduceAdd, Nat.reduceMul, Nat.add_zero, Nat.zero_add, Nat.mul_zero, not_true_eq_false, not_false_eq_true, false_implies, true_implies, hc]
    refine ⟨fun c4 => ?_, fun c4 => ?_⟩
    · rw [jaIf1_f (by omega)] at OK NO
      refine sp_Rd_step (by omega) hR (fun S' s1 s2 s3 => ?_)
      have f1 : jtF2 τ (jaU τ 0 S') := jtF2.u s1 s2
      have ek : (jaU τ 0 S') k = τ k := f1.1 k hk
      have R1 : jtR ((jaU τ 0 S') 0) X (i + 1) := by rw [jaU_eq]; exact s3
      rw [ek, h30, h32]
      generalize jaU τ 0 S' = τ1 at *
      refine ⟨fun q1 => ⟨fun q2 => ⟨fun q3 => ?_, fun q3 => ?_⟩, fun q2 => ?_⟩, fun q1 => ?_⟩
      · have e110 : jtK X i = 110 := by omega
        rw [jaIf1_t e110] at OK
        refine W 0 0 τ1 f1 c4 _ _ (fun _ => OK 1 0 0 _ τ1 rfl f1 R1 (by omega)) (fun z => absurd z (by rintro (y | y) <;> exact absurd y (by decide))) ⟨Or.inr ⟨rfl, by omega⟩, Or.inr ⟨rfl, by omega⟩⟩
      · rw [jaIf1_f (by omega), jaIf1_f (by omega), jaIf1_f (by omega)] at OK NO
        refine sp_Rd_num (i := i + 1) (X := X) (by omega) R1 (by omega) (by omega) (fun v hv v9 τ2 r1 r2 => ?_) (fun c p hv τ2 r1 r2 => ?_)
        · rw [jwB_i hv] at OK
          refine W v 0 τ2 (f1.trans r2) c4 _ _ (fun _ => OK 3 v 0 _ τ2 rfl (f1.trans r2) r1 (by omega)) (fun z => absurd z (by rintro (y | y) <;> exact absurd y (by first | decide | (rw [nI_m1 (by omega)]; exact fun w => w)))) ⟨Or.inr ⟨rfl, by omega⟩, Or.inr ⟨rfl, by omega⟩⟩
        · rw [jwB_l hv] at NO
          exact W 0 0 τ2 (f1.trans r2) c4 _ _ (fun z => absurd z.1 (by decide)) (fun _ _ _ => NO c p τ2 _ _ rfl (f1.trans r2) r1) ⟨Or.inl rfl, Or.inr ⟨rfl, by omega⟩⟩
      · rw [jaIf1_f (by omega), jaIf1_f (by omega), jaIf1_t q2] at OK NO
        refine sp_Wo_nam (i := i + 1) (X := X) (by omega) R1 (by rw [ek]; exact hn) (by omega) (fun r hr τ2 r1 r2 => ?_) (fun c p hr τ2 r1 r2 => ?_)
        · have lt := (jwNam_r hr).2.1
          rw [jwB_i hr] at OK
          refine W r 0 τ2 (f1.trans r2) c4 _ _ (fun _ => OK 2 r 0 _ τ2 rfl (f1.trans r2) r1 (by omega)) (fun z => absurd z (by rintro (y | y) <;> exact absurd y (by first | decide | (rw [nI_m1 (by omega)]; exact fun w => w)))) ⟨Or.inr ⟨rfl, by omega⟩, Or.inr ⟨rfl, by omega⟩⟩
        · rw [jwB_l hr] at NO
          exact W 0 0 τ2 (f1.trans r2) c4 _ _ (fun z => absurd z.1 (by decide)) (fun _ _ _ => NO c p τ2 _ _ rfl (f1.trans r2) r1) ⟨Or.inl rfl, Or.inr ⟨rfl, by omega⟩⟩
      · rw [jaIf1_f (by omega), jaIf1_t q1] at OK NO
        refine sp_Wo_nam (i := i + 1) (X := X) (by omega) R1 (by rw [ek]; exact hn) (by omega) (fun r hr τ2 r1 r2 => ?_) (fun c p hr τ2 r1 r2 => ?_)
        · have lt := (jwNam_r hr).2.1
          rw [jwB_i hr] at OK NO
          refine ⟨fun _ => ?_, fun z => absurd (nI_pos' (by omega)) z⟩
          refine sp_Rd_num (i := i + 2) (X := X) (by omega) r1 (by omega) (by omega) (fun v hv v9 τ3 r3 r4 => ?_) (fun c p hv τ3 r3 r4 => ?_)
          · rw [jwB_i hv] at OK
            apply jb_Bo_readLine_4
            refine W r v τ3 (f1.trans (r2.trans r4)) c4 _ _ (fun _ => OK 0 r v _ τ3 rfl (f1.trans (r2.trans r4)) r3 (by omega)) (fun z => absurd z (by rintro (y | y) <;> exact absurd y (by (rw [nI_m1 (by omega)]; exact fun w => w)))) ⟨Or.inr ⟨rfl, by omega⟩, Or.inr ⟨rfl, by omega⟩⟩
          · rw [jwB_l hv] at NO
            apply jb_Bo_readLine_4
            exact W r 0 τ3 (f1.trans (r2.trans r4)) c4 _ _ (fun z => absurd z.2.1 (by decide)) (fun _ _ _ => NO c p τ3 _ _ rfl (f1.trans (r2.trans r4)) r3) ⟨Or.inr ⟨rfl, by omega⟩, Or.inl rfl⟩
        · rw [jwB_l hr] at NO
          refine ⟨fun z => absurd z n1, fun _ => ?_⟩
          apply jb_Bo_readLine_4
          exact W 0 0 τ2 (f1.trans r2) c4 _ _ (fun z => absurd z.1 (by decide)) (fun _ _ _ => NO c p τ2 _ _ rfl (f1.trans r2) r1) ⟨Or.inl rfl, Or.inl rfl⟩
    · rw [jaIf1_t (by omega)] at h0
      exact sp_Rd_fail (by omega) hR (fun S' a b c => ⟨Or.inl rfl, h0 4 i rfl _ (by rw [jaU_eq]; exact c) (jtF2.u a b).b⟩)
  apply js_Bo_readLine
  refine sp_Rd_kind (by omega) hR ?_
  simp (disch := first | omega | decide) only [jaU_eq, jaU_U, nI_add, pk_mul, jaIx_nI, vp_inT, true_and, and_true, ↓jaO0, ↓jaO1, nI_z, nI_z2, nI_z3, nI_z4, nI_z5, nI_lt', nI_le', nI_eq', jaUI_at, jaPt_eq, jaPt_ne, jaUI_o, jaUI_2, jaUL_at, jaUL_o, jaUL_1, jaB_z, jaB_1, ↓jaB_01, Classical.not_not, and_self, true_or, or_true, nI_11, Nat.reduceEqDiff, Nat.reduceAdd, Nat.reduceMul, Nat.add_zero, Nat.zero_add, Nat.mul_zero, not_true_eq_false, not_false_eq_true, false_implies, true_implies]
  refine ⟨fun q => L1 (by omega), fun q1 => ⟨fun q => L1 (by omega), fun q2 => ⟨fun q => L1 (by omega), fun q3 => ⟨fun q => L1 (by omega), fun q4 => ?_⟩⟩⟩⟩
  unfold jbLine at h0
  rw [jaIf1_f (by omega)] at h0
  exact sp_Rd_fail (by omega) hR (fun S' a b c => ⟨Or.inl rfl, h0 1 i rfl _ (by rw [jaU_eq]; exact c) (jtF2.u a b).b⟩)
end
