section
/-! book: class, then reference -/
set_option maxHeartbeats 2000000 in
theorem jf_book {x1 : Int32} : jFc jy_A_book jy_M_book [.inl x1] := by
  intro σ hI
  have hW : jW3 (jIx (σ 20)) := hI.W
  have hR := hI.R
  have ht : jz (jIx (σ 20)).1 31 ≤ 1000 := hI.2.1.2.2.1
  obtain ⟨nt, t⟩ := hI.T
  obtain ⟨X, X1, X2, hX, hT, h71⟩ := jTp_X t 400
  have hI' := hI
  obtain ⟨h1, h2, h3, h4, h5, h6, h7, h8⟩ := hI'
  obtain ⟨m, q, hm, hq, h9, hk8, h33, -, -⟩ := h3
  obtain ⟨-, -, -, nm, m1, m2, m3⟩ := h2
  have h0 := hI.W.w.1
  have hC2 := hI.W.w.2.2.1
  have hn2 : (σ 20).1 70 0 2 = nI X.2.1 := by rw [X1]; exact t.2.2.1
  have hn1 : (σ 0).1 0 0 1 = nI X.2.1 := by rw [X1]; exact t.2.1
  have hl : X.2.1 ≤ 940 := by rw [X1]; exact t.1
  have t4 := t.2.2.2
  have hE : jbE (σ 20) nm (jz ((σ 20).1 72 0) 0) (jz ((σ 20).1 72 0) 2) := ⟨fun r hr => ⟨m2 r (by omega) (Or.inl hr), (m1 r (by omega)).2⟩, fun r hr => ⟨m2 (13 + r) (by omega) (Or.inr (Or.inr ⟨by omega, by omega⟩)), (m1 (13 + r) (by omega)).2⟩, h0.1, hC2.1⟩
  have M := fun (τ : jaT) (kk : Int32 → jaT → Prop) => sp_M_book (D := 12) (kk := kk) (σ := τ) (S := σ 20) (X := X) (nm := nm) (x := jIx (σ 20)) (uu := (σ 20).1 83 0) (m := m) (x1 := x1) (ls0 := fun _ => (0, 0, 0)) (by omega) hn2 hl X2 hX h71 h8.1 hE m3 rfl rfl rfl hW ht h33 hm rfl
  have G : ∀ v, v < 2 → x1 = nI v → jaDe 32 jy_A_readTape [jcA, .inl (nI 400)] σ (jaKv fun σ1 => jaDe 32 jy_Bo_read [.inr (.inr (6, 0, 0)), .inr (.inr (2, 0, 0)), jcWo 1] σ1 (jaKi fun r3 σ2 => (¬ r3 = 0 → jaDe 32 jy_St_copyFrom [jcSt 2, jcSt 1] σ2 (jaKv fun σ4 => jc_A_book_3 32 (fun a σ1 => jaDe 12 jy_M_book [jaMo, .inl x1] σ1 (jaKi fun b σ2 => a = b ∧ jI σ2)) x1 (nI 0) (nI 0) (nI 0) σ4)) ∧ (r3 = 0 → jaDe 32 jy_A_faultBelow [jcA, .inl (-2 : Int32)] σ2 (jaKi fun r6 σ5 => jaDe 12 jy_M_book [jaMo, .inl x1] σ5 (jaKi fun b σ2 => r6 = b ∧ jI σ2))))) := by
    intro v hv hx
    rw [jaAs (τ := σ) (k := 0) rfl]
    rw [← X2]
    refine sp_A_readTape (by omega) hX hT hn1 hl (by omega) (fun A' pf a1 a3 r => ?_)
    have n1 : jaU σ 0 A' 1 = σ 1 := jaU_ne (by decide)
    refine sp_Bo_read (nm := nm) (n0 := jz ((σ 20).1 72 0) 0) (n2 := jz ((σ 20).1 72 0) 2) (ls0 := fun _ => (0, 0, 0)) (by omega) (by decide) (by rw [jaU_eq]; exact r) (by rw [n1]; exact m1) (by rw [n1]; exact hR.w.1.1.trans h0.1) (by rw [n1]; exact hR.w.1.2.2.1.trans hC2.1) h0.2 hC2.2.2 (fun ls n hu τ' hC fB => ?_) (fun c p hc τ' fl fB => ?_)
    · obtain ⟨f1, f2⟩ := fB
      rw [jaU_eq] at f2
      have tn : ∀ q, q ≠ 0 → τ' q = σ q := fun q h1 => by rw [f1 q h1, jaU_ne h1]
      obtain ⟨hn40, hok⟩ := jbAll_r h0.2 hC2.2.2 41 _ 0 0 (by omega) hu (fun j hj => absurd hj (by omega))
      obtain ⟨g1, g2, g3, g4, g5, g6⟩ := jbGo_W (ls := ls) n 0 (jIx (σ 20)) hW ht (fun j _ hj => hok j (by omega))
      refine ⟨fun _ => ?_, fun z => absurd z (by decide)⟩
      refine sp_St_copyFrom0 (by omega) (by decide) (by rw [tn 1 (by decide)]; exact hR) hW (fun S2 r2 _ l2 => ?_)
      rw [tn 1 (by decide)] at l2
      refine jbLines (τ := τ') (n0 := jz ((σ 20).1 72 0) 0) (n2 := jz ((σ 20).1 72 0) 2) (by omega) hC hn40 hok n 0 (jIx (σ 20)) S2 (by omega) r2 hW ht rfl rfl (fun S' r' l' => ?_)
      have mm := M
      generalize hy : jbGo ls n 0 (jIx (σ 20)) = y at *
      obtain ⟨w, L, x'⟩ := y
      simp only [] at g1 g2 g3 g4 g5 g6 r' ⊢
      have L41 : L ≤ 40 := by omega
      generalize hτ : jaU (jaU τ' 2 S') 0 (jbA (τ' 0) w L (x'.1 31) (x'.1 34)) = τ
      have τ0 : τ 0 = jbA (τ' 0) w L (x'.1 31) (x'.1 34) := by rw [← hτ, jaU_eq]
      have τ2 : τ 2 = S' := by rw [← hτ, jaU_ne (by decide), jaU_eq]
      have τn : ∀ q, q ≠ 0 → q ≠ 2 → τ q = σ q := fun q h1 h2 => by rw [← hτ, jaU_ne h1, jaU_ne h2, tn q h1]
      have To : ∀ o, o = 1 ∨ 11 ≤ o → (τ 0).1 o = (σ 0).1 o := fun o ho => by
        have hne : o ≠ 0 := by omega
        have hne' : o ≠ 10 := by omega
        rw [τ0, ← pf.1 o (by omega), ← f2 o (by omega)]
        unfold jbA
        funext a
        simp (disch := first | omega | decide) only [jaU_eq, jaU_U, nI_add, pk_mul, jaIx_nI, vp_inT, true_and, and_true, ↓jaO0, ↓jaO1, nI_z, nI_z2, nI_z3, nI_z4, nI_z5, nI_lt', nI_le', nI_eq', jaUI_at, jaPt_eq, jaPt_ne, jaUI_o, jaUI_2, jaUL_at, jaUL_o, jaUL_1, jaB_z, jaB_1, ↓jaB_01, Classical.not_not, and_self, true_or, or_true, nI_11, Nat.reduceEqDiff, Nat.reduceAdd, Nat.reduceMul, Nat.add_zero, Nat.zero_add, Nat.mul_zero, not_true_eq_false, not_false_eq_true, false_implies, true_implies, hne, hne']
      have Tv : ∀ j, j ≠ 17 → (τ 0).1 0 0 j = A'.1 0 0 j := fun j g17 => by
        rw [τ0, ← f2 0 (by omega)]
        unfold jbA
        simp (disch := first | omega | decide) only [jaU_eq, jaU_U, nI_add, pk_mul, jaIx_nI, vp_inT, true_and, and_true, ↓jaO0, ↓jaO1, nI_z, nI_z2, nI_z3, nI_z4, nI_z5, nI_lt', nI_le', nI_eq', jaUI_at, jaPt_eq, jaPt_ne, jaUI_o, jaUI_2, jaUL_at, jaUL_o, jaUL_1, jaB_z, jaB_1, ↓jaB_01, Classical.not_not, and_self, true_or, or_true, nI_11, Nat.reduceEqDiff, Nat.reduceAdd, Nat.reduceMul, Nat.add_zero, Nat.zero_add, Nat.mul_zero, not_true_eq_false, not_false_eq_true, false_implies, true_implies, g17]
      have T17 : (τ 0).1 0 0 17 = nI 1 := by
        rw [τ0]
        unfold jbA
        simp (disch := first | omega | decide) only [jaU_eq, jaU_U, nI_add, pk_mul, jaIx_nI, vp_inT, true_and, and_true, ↓jaO0, ↓jaO1, nI_z, nI_z2, nI_z3, nI_z4, nI_z5, nI_lt', nI_le', nI_eq', jaUI_at, jaPt_eq, jaPt_ne, jaUI_o, jaUI_2, jaUL_at, jaUL_o, jaUL_1, jaB_z, jaB_1, ↓jaB_01, Classical.not_not, and_self, true_or, or_true, nI_11, Nat.reduceEqDiff, Nat.reduceAdd, Nat.reduceMul, Nat.add_zero, Nat.zero_add, Nat.mul_zero, not_true_eq_false, not_false_eq_true, false_implies, true_implies]
      have T10 : (τ 0).1 10 0 0 = w ∧ (τ 0).1 10 0 1 = nI L ∧ (τ 0).1 10 0 2 = x'.1 31 ∧ (τ 0).1 10 0 3 = x'.1 34 := by
        rw [τ0]
        unfold jbA
        simp (disch := first | omega | decide) only [jaU_eq, jaU_U, nI_add, pk_mul, jaIx_nI, vp_inT, true_and, and_true, ↓jaO0, ↓jaO1, nI_z, nI_z2, nI_z3, nI_z4, nI_z5, nI_lt', nI_le', nI_eq', jaUI_at, jaPt_eq, jaPt_ne, jaUI_o, jaUI_2, jaUL_at, jaUL_o, jaUL_1, jaB_z, jaB_1, ↓jaB_01, Classical.not_not, and_self, true_or, or_true, nI_11, Nat.reduceEqDiff, Nat.reduceAdd, Nat.reduceMul, Nat.add_zero, Nat.zero_add, Nat.mul_zero, not_true_eq_false, not_false_eq_true, false_implies, true_implies]
      have JB : ∀ (A B : jaS), A.1 10 = (τ 0).1 10 → A.1 0 0 17 = nI 1 → jbT B (w, L, x') → jIb A B := fun A B e10 e17 tb => by
        obtain ⟨q1, q2, q3, q4, q5⟩ := tb
        obtain ⟨p1, p2, p3, p4⟩ := T10
        refine Or.inr ⟨e17, q5, fun j hj => ?_⟩
        rw [e10]
        have : j = 0 ∨ j = 1 ∨ j = 2 ∨ j = 3 := by omega
        rcases this with rfl | rfl | rfl | rfl
        · exact p1.trans q1.symm
        · exact p2.trans q2.symm
        · exact p3.trans q3.symm
        · exact p4.trans q4.symm
      have Fin1 : (v = 0 ∨ L = 0) → jaDe 12 jy_M_book [jaMo, .inl x1] τ (jaKi fun b σ2 => (if w = nI 0 then (-1 : Int32) else nI L) = b ∧ jI σ2) := by
        intro hc
        refine jaAk (k := 20) (B := σ 20) (P := fun τ => jaDe 12 jy_M_book [jaMo, .inl x1] τ (jaKi fun b σ2 => (if w = nI 0 then (-1 : Int32) else nI L) = b ∧ jI σ2)) (τn 20 (by decide) (by decide)) ?_
        refine mm _ _ (fun z => absurd ⟨v, hv, hx⟩ z) (fun _ c p hc => ?_) (fun v' hv' hx' ls' n' hu' B' bT b72 b75 b76 b83 b33 y02 y18 f => ?_)
        · have hc := hc.symm.trans hu
          cases hc
        · have hu'' := hu'.symm.trans hu
          have := Sum.inr.inj hu''
          obtain ⟨rfl, rfl⟩ := Prod.mk.inj this
          have ev : v' = v := by
            rw [hx, nI_eq' (by omega) (by omega)] at hx'
            exact hx'.symm
          subst ev
          rw [hy] at bT b72 b75 b76 b83 b33 ⊢
          refine ⟨rfl, ?_⟩
          have nv : ¬ (v' = 1 ∧ 0 < L) := fun z => by omega
          have e72 : B'.1 72 0 = (σ 20).1 72 0 := by
            rw [b72]
            by_cases z : v' = 0
            · rw [if_pos z]
            · rw [if_neg z]
              have l0 : L = 0 := by omega
              have := jbGo_no (ls := ls') (m := n') (x := jIx (σ 20)) (by rw [hy]; exact l0)
              rw [hy] at this
              have : x' = jIx (σ 20) := this
              rw [this]
          simp only [if_neg nv] at b83 b33
          refine jI_AG hI (fun k k0 k2 _ => τn k k0 k2) ⟨⟨0, by decide, (Tv 1 (by decide)).trans a1, y02⟩, by rw [Tv 3 (by decide), a3, y18], fun j hj => ?_⟩ (JB _ _ rfl T17 bT) ?_ (fun j hj => ?_) (by rw [To 15 (by decide)]) e72 b83 (fun j hj => by rw [b75]; exact g2.2.1 j hj) (fun j hj => by rw [b76]; exact g2.2.2.1 j hj) (fun o ho => f.s o (by revert ho; revert o; decide) (by rintro rfl; revert ho; decide)) (fun o ho => f.l o (by revert ho; revert o; decide) (by rintro rfl; revert ho; decide)) (b33.trans h33.symm)
          · rw [To 1 (by decide), f.s 71 (by decide) (by decide)]
            exact t4 j hj
          · unfold jIf
            rw [To 16 (by decide), To 17 (by decide), f.f 37 (by decide), f.f 38 (by decide), f.f 39 (by decide), f.s 86 (by decide) (by decide)]
            exact h7
          · rw [Tv j (fun e => by rw [e] at hj; revert hj; decide)]
            exact pf.2 j (fun e => by rw [e] at hj; revert hj; decide) (fun e => by rw [e] at hj; revert hj; decide)
      have two : ∀ τ, jaDe 12 jy_M_book [jaMo, .inl x1] τ (jaKi fun b σ2 => (if w = nI 0 then (-1 : Int32) else nI L) = b ∧ jI σ2) → (¬ w = 0 → jaDe 12 jy_M_book [jaMo, .inl x1] τ (jaKi fun b σ2 => nI L = b ∧ jI σ2)) ∧ (w = 0 → jaDe 12 jy_M_book [jaMo, .inl x1] τ (jaKi fun b σ2 => (-1 : Int32) = b ∧ jI σ2)) := by
        intro τ h
        refine ⟨fun z => ?_, fun z => ?_⟩
        · rw [if_neg (show ¬ w = nI 0 from z)] at h
          exact h
        · rw [if_pos (show w = nI 0 from z)] at h
          exact h
      unfold jbZ
      refine ⟨fun z => two _ (Fin1 (Or.inl ?_)), fun z => ⟨fun y => two _ (Fin1 (Or.inr ?_)), fun y => ?_⟩⟩
      · by_cases v0 : v = 0
        · exact v0
        · exact absurd (by rw [hx, show v = 1 by omega]) z
      · rw [show (0 : Int32) = nI 0 from rfl, nI_le' (by omega) (by omega)] at y
        omega
      · have L0 : 0 < L := by
          rw [show (0 : Int32) = nI 0 from rfl, nI_le' (by omega) (by omega)] at y
          omega
        have v1 : v = 1 := by
          rw [hx, nI_eq' (by omega) (by omega)] at z
          exact z
        have v9 : (τ 0).1 0 0 9 = nI m := (Tv 9 (by decide)).trans ((pf.2 9 (by decide) (by decide)).trans h9)
        have v8 : (τ 0).1 0 0 8 = nI q := (Tv 8 (by decide)).trans ((pf.2 8 (by decide) (by decide)).trans hk8)
        refine sp_A_keepState (s := (σ 20).1 72 0) (d := (σ 20).1 75 0) (e := (σ 20).1 76 0) (by omega) (by rw [τn 1 (by decide) (by decide)]; exact hR) hI.W hm hq v9 v8 (fun Tk rk nk => ?_)
        obtain ⟨p1, p2, p3⟩ := @jKt0_n τ q m Tk
        refine sp_St_copyFrom0 (s := x'.1) (d := x'.2.1) (e := x'.2.2) (by omega) (by decide) (by rw [p1 2 (by decide) (by omega), τ2]; exact r') g1 (fun S1 s1 _ ln => ?_)
        rw [p1 2 (by decide) (by omega), τ2] at ln
        refine two _ ?_
        have e20 : jaU (jKt0 τ q m Tk) 1 S1 20 = σ 20 := by rw [jaU_ne (by decide), p1 20 (by decide) (by omega), τn 20 (by decide) (by decide)]
        refine jaAk (k := 20) (B := σ 20) (P := fun τ => jaDe 12 jy_M_book [jaMo, .inl x1] τ (jaKi fun b σ2 => (if w = nI 0 then (-1 : Int32) else nI L) = b ∧ jI σ2)) e20 ?_
        refine mm _ _ (fun z => absurd ⟨v, hv, hx⟩ z) (fun _ c p hc => ?_) (fun v' hv' hx' ls' n' hu' B' bT b72 b75 b76 b83 b33 y02 y18 f => ?_)
        · have hc := hc.symm.trans hu
          cases hc
        · have hu'' := hu'.symm.trans hu
          have := Sum.inr.inj hu''
          obtain ⟨rfl, rfl⟩ := Prod.mk.inj this
          have ev : v' = 1 := by
            rw [hx, v1, nI_eq' (by omega) (by omega)] at hx'
            exact hx'.symm
          subst ev
          rw [hy] at bT b72 b75 b76 b83 b33 ⊢
          refine ⟨rfl, ?_⟩
          have nv : (1 : Nat) = 1 ∧ 0 < L := ⟨rfl, L0⟩
          rw [if_neg (by decide)] at b72
          rw [if_pos nv] at b83 b33
          have T0 : jaU (jKt0 τ q m Tk) 1 S1 0 = jaUI (jaUI (τ 0) 0 0 8 (nI ((q + 1) % 8))) 0 0 9 (nI (jvStM m)) := by rw [jaU_ne (by decide), p3]
          have Tp : ∀ o, o ≠ 0 → (jaU (jKt0 τ q m Tk) 1 S1 0).1 o = (τ 0).1 o := fun o hne => by
            rw [T0]
            funext a
            simp (disch := first | omega | decide) only [jaU_eq, jaU_U, nI_add, pk_mul, jaIx_nI, vp_inT, true_and, and_true, ↓jaO0, ↓jaO1, nI_z, nI_z2, nI_z3, nI_z4, nI_z5, nI_lt', nI_le', nI_eq', jaUI_at, jaPt_eq, jaPt_ne, jaUI_o, jaUI_2, jaUL_at, jaUL_o, jaUL_1, jaB_z, jaB_1, ↓jaB_01, Classical.not_not, and_self, true_or, or_true, nI_11, Nat.reduceEqDiff, Nat.reduceAdd, Nat.reduceMul, Nat.add_zero, Nat.zero_add, Nat.mul_zero, not_true_eq_false, not_false_eq_true, false_implies, true_implies, hne]
          have Tw : ∀ j, j ≠ 8 → j ≠ 9 → (jaU (jKt0 τ q m Tk) 1 S1 0).1 0 0 j = (τ 0).1 0 0 j := fun j g8 g9 => by
            rw [T0, jaUI_at, jaPt_ne g9, jaUI_at, jaPt_ne g8]
          refine jI_act (m := m) (q := q) (x' := x') hI hm hq h9 hk8 (fun k k0 k1 k2 k3 k20 => by rw [jaU_ne k1, p1 k k0 k3, τn k k0 k2]) ⟨⟨0, by decide, (Tw 1 (by decide) (by decide)).trans ((Tv 1 (by decide)).trans a1), y02⟩, by rw [Tw 3 (by decide) (by decide), Tv 3 (by decide), a3, y18], fun j hj => ?_⟩ (JB _ _ (Tp 10 (by decide)) ((Tw 17 (by decide) (by decide)).trans T17) bT) ?_ ((Tw 11 (by decide) (by decide)).trans ((Tv 11 (by decide)).trans (pf.2 11 (by decide) (by decide)))) (by rw [Tp 15 (by decide), To 15 (by decide)]) (by rw [T0, jaUI_at, jaPt_eq]) (by rw [T0, jaUI_at, jaPt_ne (by decide), jaUI_at, jaPt_eq]) (by rw [jaU_ne (by omega), p2]; exact rk) (fun i hi => by rw [jaU_ne (by omega), p2, nk i hi, τn 1 (by decide) (by decide)]) (by rw [jaU_eq]; exact s1) (fun i hi => by rw [jaU_eq, ln i hi, l', l2 i hi]) g1 g2 g3 b72 b75 b76 b83 b33 (fun o ho => f.s o (by revert ho; revert o; decide) (by rintro rfl; revert ho; decide)) (fun o ho => f.l o (by revert ho; revert o; decide) (by rintro rfl; revert ho; decide))
          · rw [Tp 1 (by decide), To 1 (by decide), f.s 71 (by decide) (by decide)]
            exact t4 j hj
          · unfold jIf
            rw [Tp 16 (by decide), Tp 17 (by decide), To 16 (by decide), To 17 (by decide), f.f 37 (by decide), f.f 38 (by decide), f.f 39 (by decide), f.s 86 (by decide) (by decide)]
            exact h7
    · obtain ⟨f1, f2⟩ := fB
      rw [jaU_eq] at f2
      refine ⟨fun z => absurd rfl z, fun _ => ?_⟩
      refine sp_A_faultBelow (by omega) fl ?_
      generalize hτ : jaU τ' 0 (jaUI (τ' 0) 0 0 3 (nI c)) = τ
      have τ0 : τ 0 = jaUI (τ' 0) 0 0 3 (nI c) := by rw [← hτ, jaU_eq]
      have tn : ∀ q, q ≠ 0 → τ q = σ q := fun q h1 => by rw [← hτ, jaU_ne h1, f1 q h1, jaU_ne h1]
      have T0 : ∀ j, j ≠ 1 → j ≠ 3 → (τ 0).1 0 0 j = (σ 0).1 0 0 j := fun j g1 g3 => by
        rw [τ0, jaUI_at, jaPt_ne g3, f2 0 (by omega), pf.2 j g1 g3]
      have To : ∀ o, o = 1 ∨ 10 ≤ o → (τ 0).1 o = (σ 0).1 o := fun o ho => by
        have hne : o ≠ 0 := by omega
        rw [τ0, ← pf.1 o (by omega), ← f2 o (by omega)]
        funext a
        simp (disch := first | omega | decide) only [jaU_eq, jaU_U, nI_add, pk_mul, jaIx_nI, vp_inT, true_and, and_true, ↓jaO0, ↓jaO1, nI_z, nI_z2, nI_z3, nI_z4, nI_z5, nI_lt', nI_le', nI_eq', jaUI_at, jaPt_eq, jaPt_ne, jaUI_o, jaUI_2, jaUL_at, jaUL_o, jaUL_1, jaB_z, jaB_1, ↓jaB_01, Classical.not_not, and_self, true_or, or_true, nI_11, Nat.reduceEqDiff, Nat.reduceAdd, Nat.reduceMul, Nat.add_zero, Nat.zero_add, Nat.mul_zero, not_true_eq_false, not_false_eq_true, false_implies, true_implies, hne]
      refine jaAk (k := 20) (B := σ 20) (P := fun τ => jaDe 12 jy_M_book [jaMo, .inl x1] τ (jaKi fun b σ2 => (-2 : Int32) - nI (jtAt X p) = b ∧ jI σ2)) (tn 20 (by decide)) ?_
      refine M _ _ (fun z => absurd ⟨v, hv, hx⟩ z) (fun _ c' p' hc' B' fl' b2 f => ?_) (fun v' hv' hx' ls' n' hu' => ?_)
      · have hcc := hc'.symm.trans hc
        have := Sum.inl.inj hcc
        obtain ⟨rfl, rfl⟩ := Prod.mk.inj this
        refine ⟨rfl, ?_⟩
        refine jI_A hI (fun q q0 _ _ => tn q q0) ⟨⟨0, by decide, ?_, b2⟩, ?_, fun j hj => ?_⟩ ?_ ?_ (fun j hj => ?_) (by rw [To 15 (by decide)]) (fun o ho => f.s o (by revert ho; revert o; decide) (by rintro rfl; revert ho; decide)) (fun o ho => f.l o (by revert ho; revert o; decide) (by rintro rfl; revert ho; decide)) ?_
        · rw [τ0, jaUI_at, jaPt_ne (by decide), f2 0 (by omega)]
          exact a1
        · rw [τ0, jaUI_at, jaPt_eq]
          exact fl'.1.symm
        · rw [To 1 (by decide), f.s 71 (by decide) (by decide)]
          exact t4 j hj
        · unfold jIb
          rw [T0 17 (by decide) (by decide), To 10 (by decide), f.f 43 (by decide), f.s 88 (by decide) (by decide)]
          exact h6
        · unfold jIf
          rw [To 16 (by decide), To 17 (by decide), f.f 37 (by decide), f.f 38 (by decide), f.f 39 (by decide), f.s 86 (by decide) (by decide)]
          exact h7
        · exact T0 j (fun e => by rw [e] at hj; revert hj; decide) (fun e => by rw [e] at hj; revert hj; decide)
        · exact f.f 33 (by decide)
      · have hc := hu'.symm.trans hc
        cases hc
  have M0 : (¬ ∃ v, v < 2 ∧ x1 = nI v) → jaDe 12 jy_M_book [jaMo, .inl x1] σ (jaKi fun b σ2 => (-1000 : Int32) = b ∧ jI σ2) := by
    intro c
    refine jaAk (k := 20) (B := σ 20) (P := fun τ => jaDe 12 jy_M_book [jaMo, .inl x1] τ (jaKi fun b σ2 => (-1000 : Int32) = b ∧ jI σ2)) rfl ?_
    exact M σ _ (fun _ S' f => ⟨rfl, jI_M hI f (by decide) (by decide)⟩) (fun z => absurd z c) (fun v hv hx => absurd ⟨v, hv, hx⟩ c)
  apply js_A_book
  refine ⟨fun z => G 0 (by decide) z, fun z => ⟨fun y => G 1 (by decide) y, fun y => M0 ?_⟩⟩
  rintro ⟨v, hv, hx⟩
  have : v = 0 ∨ v = 1 := by omega
  rcases this with rfl | rfl
  · exact z hx
  · exact y hx
end
