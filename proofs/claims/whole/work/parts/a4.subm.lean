section
/-! submit: class, then reference -/
set_option maxHeartbeats 2000000 in
theorem jf_submit {x1 : Int32} : jFc jy_A_submit jy_M_submit [.inl x1] := by
  intro σ hI
  have hW := hI.W
  have hR := hI.R
  have ht := hI.2.1.2.2.1
  obtain ⟨n, t⟩ := hI.T
  obtain ⟨X, X1, X2, hX, hT, h71⟩ := jTp_X t 200
  have hI' := hI
  obtain ⟨h1, h2, h3, h4, h5, h6, h7, h8⟩ := hI'
  obtain ⟨m, q, hm, hq, h9, hk8, h33, -, -⟩ := h3
  obtain ⟨-, -, -, nm, m1, m2, m3⟩ := h2
  have h0 := hW.w.1
  have hK := hW.w.2.1
  have h32 := hW.o.many
  have hn2 : (σ 20).1 70 0 2 = nI X.2.1 := by rw [X1]; exact t.2.2.1
  have hn1 : (σ 0).1 0 0 1 = nI X.2.1 := by rw [X1]; exact t.2.1
  have hl : X.2.1 ≤ 940 := by rw [X1]; exact t.1
  have t4 := t.2.2.2
  have hE : jsE (jz ((σ 20).1 72 0) 1) nm (σ 1) := ⟨m1, hR.w.1.2.1.trans hK.1⟩
  have hN : ∀ r, r < jz ((σ 20).1 72 0) 1 → (σ 20).2 78 0 (3 + r) = Int64.ofNat (nm (3 + r)) ∧ nm (3 + r) < 9223372036854775808 := fun r hr => ⟨m2 (3 + r) (by omega) (Or.inr (Or.inl ⟨by omega, by omega⟩)), (m1 (3 + r) (by omega)).2⟩
  have e30 : (σ 1).1 30 0 0 = nI (jz ((σ 20).1 72 0) 0) := hR.w.1.1.trans h0.1
  have e54 : (σ 1).1 54 0 0 = nI (jz ((σ 20).1 72 0) 32) := hR.s.1.trans h32.1
  have M := fun (τ : jaT) (kk : Int32 → jaT → Prop) => sp_M_submit (D := 12) (kk := kk) (σ := τ) (S := σ 20) (X := X) (nm := nm) (x := jIx (σ 20)) (uu := (σ 20).1 83 0) (m := m) (x1 := x1) (by omega) hn2 hl X2 hX h71 h8.1 hN rfl rfl rfl hW h33 hm rfl
  have M0 : ((¬ ∃ q, q < jz ((σ 20).1 72 0) 0 ∧ x1 = nI q) ∨ jz ((σ 20).1 72 0) 32 = 24) → jaDe 12 jy_M_submit [jaMo, .inl x1] σ (jaKi fun b σ2 => (-1000 : Int32) = b ∧ jI σ2) := by
    intro c
    refine jaAk (k := 20) (B := σ 20) (P := fun τ => jaDe 12 jy_M_submit [jaMo, .inl x1] τ (jaKi fun b σ2 => (-1000 : Int32) = b ∧ jI σ2)) rfl ?_
    refine M σ _ (fun _ S' f => ⟨rfl, jI_M hI f (by decide) (by decide)⟩) (fun a b => ?_) (fun q a b b' => ?_)
    · rcases c with c | c
      · exact absurd a c
      · exact absurd (show jz ((σ 20).1 72 0) 32 < 24 from b) (by omega)
    · rcases c with c | c
      · exact absurd ⟨q, a, b⟩ c
      · exact absurd (show jz ((σ 20).1 72 0) 32 < 24 from b') (by omega)
  apply js_A_submit
  rw [e30]
  by_cases c : ∃ q, q < jz ((σ 20).1 72 0) 0 ∧ x1 = nI q
  · obtain ⟨x, hx, rfl⟩ := c
    refine ⟨fun z => absurd z (by rw [show (0 : Int32) = nI 0 from rfl, nI_lt' (by omega) (by omega)]; omega), fun _ => ⟨fun z => absurd z (by rw [nI_le' (by omega) (by omega)]; omega), fun _ => ?_⟩⟩
    rw [jaAs (τ := σ) (k := 1) rfl]
    refine sp_Sc_isFull (by omega) e54 (by omega) ?_
    rw [jaU_self]
    by_cases f24 : jz ((σ 20).1 72 0) 32 = 24
    · refine ⟨fun z => absurd (by rwa [jaB_z, Classical.not_not] at z) (show ¬ jz ((σ 20).1 72 0) 32 < 24 by omega), fun _ => M0 (Or.inr f24)⟩
    · have h24 : jz ((σ 20).1 72 0) 32 < 24 := by omega
      refine ⟨fun _ => ?_, fun z => absurd h24 (by rwa [jaB_z, Classical.not_not] at z)⟩
      rw [jaAs (τ := σ) (k := 0) rfl]
      rw [← X2]
      refine sp_A_readTape (by omega) hX hT hn1 hl (by omega) (fun A' pf a1 a3 r => ?_)
      have n1 : jaU σ 0 A' 1 = σ 1 := jaU_ne (by decide)
      refine sp_Sc_read (P := (σ 20).1 77 0) (n := jz ((σ 20).1 72 0) 32) (nm := nm) (K := jz ((σ 20).1 72 0) 1) (by omega) (by decide) (by rw [jaU_eq]; exact r) (by rw [n1]; exact hE) hK.2 h24 (by rw [n1]; exact e54) (fun u n' hu τ' c1 c2 c3 fs fr => ?_) (fun c p hc τ' fl fs fr => ?_)
      · obtain ⟨f1, f2⟩ := fr
        rw [jaU_eq] at f2
        rw [n1] at fs
        have rT : jR (τ' 1) (jIx (σ 20)) := jR_f hR hW fs
        have lT : (τ' 1).2 = (σ 1).2 := by
          rw [fs.2.1]
          rfl
        have tn : ∀ q, q ≠ 0 → q ≠ 1 → τ' q = σ q := fun q h1 h2 => by rw [f1 q h1 h2, jaU_ne h1]
        have v0 : ∀ j, (τ' 0).1 0 0 j = A'.1 0 0 j := fun j => by rw [f2 0 (by omega)]
        have v9 : (τ' 0).1 0 0 9 = nI m := (v0 9).trans ((pf.2 9 (by decide) (by decide)).trans h9)
        have v8 : (τ' 0).1 0 0 8 = nI q := (v0 8).trans ((pf.2 8 (by decide) (by decide)).trans hk8)
        refine ⟨fun _ => ?_, fun z => absurd z (by decide)⟩
        refine sp_A_keepState (s := (σ 20).1 72 0) (d := (σ 20).1 75 0) (e := (σ 20).1 76 0) (by omega) rT hW hm hq v9 v8 (fun Tk rk nk => ?_)
        obtain ⟨p1, p2, p3⟩ := @jKt0_n τ' q m Tk
        obtain ⟨b1, b2, b3, b4, b5⟩ := jsAll_r hX hK.2 7 0 ((σ 20).1 77 0, 0) 0 rfl hu ⟨Nat.zero_le _, fun j hj => absurd (show j < 0 from hj) (by omega)⟩ (fun x hx => absurd hx (by omega))
        have u4 := b4.1
        have g0 : jsP u (nI x) n' 0 = nI x := by
          unfold jsP
          rw [jaPt_ne (by decide), jaPt_ne (by decide), jaPt_eq]
        have g1 : jsP u (nI x) n' 1 = nI n' := by
          unfold jsP
          rw [jaPt_ne (by decide), jaPt_eq]
        have g2 : jsP u (nI x) n' 2 = nI u.2 := jaPt_eq
        have z1 : jz (jsP u (nI x) n') 1 = n' := by rw [jz, g1, jaIx_nI (by omega)]
        have z2 : jz (jsP u (nI x) n') 2 = u.2 := by rw [jz, g2, jaIx_nI (by omega)]
        have hn := jsP_W (P := (σ 20).1 77 0) (d := (σ 20).1 75 0) (m := jz ((σ 20).1 72 0) 32) (q := x) hX hK.2 hu (by omega)
        refine sp_St_arriveNew (S := σ 1) (T := τ' 1) (s := (σ 20).1 72 0) (d := (σ 20).1 75 0) (e := (σ 20).1 76 0) (P := jsP u (nI x) n') (x := nI x) (by omega) hR hW h24 (p1 1 (by decide) (by omega)) fs g0 (by rw [c2, g1]) (by rw [c1.2.1, g2]) (fun j hj => ?_) (fun i hi => ?_) hn (fun S1 r1 l1 => ?_)
        · rw [z2] at hj
          rw [c1.2.2 j hj, jsP_n (by omega)]
        · rw [z1] at hi
          have hq := c3 i hi
          refine jRq_m (C := (τ' 1).1 59 0) (d := u.1) (p := 42 * jz ((σ 20).1 72 0) 32 + 7 * i) (t := 7 + 21 * i) (fun j _ => rfl) (fun j _ => jsP_n (by omega)) ?_ hq
          have h5 := hn.2.2.2.2.2 i (by
            have : jz (jvCp ((σ 20).1 75 0) (133 * jz ((σ 20).1 72 0) 32) (jsP u (nI x) n') 0 133) (133 * jz ((σ 20).1 72 0) 32 + 1) = n' := by
              rw [jz, jvCp_in (by decide), Nat.zero_add, g1, jaIx_nI (by omega)]
            rw [this]
            exact hi)
          obtain ⟨-, -, -, ⟨-, n54⟩, -⟩ := h5
          have e : jvCp ((σ 20).1 75 0) (133 * jz ((σ 20).1 72 0) 32) (jsP u (nI x) n') 0 133 (133 * jz ((σ 20).1 72 0) 32 + 7 + 21 * i + 4) = u.1 (7 + 21 * i + 4) := by
            rw [show 133 * jz ((σ 20).1 72 0) 32 + 7 + 21 * i + 4 = 133 * jz ((σ 20).1 72 0) 32 + (7 + 21 * i + 4) by omega, jvCp_in (by omega), Nat.zero_add, jsP_n (by omega)]
          rw [show jz u.1 (7 + 21 * i + 4) = jz (jvCp ((σ 20).1 75 0) (133 * jz ((σ 20).1 72 0) 32) (jsP u (nI x) n') 0 133) (133 * jz ((σ 20).1 72 0) 32 + 7 + 21 * i + 4) from (congrArg jaIx e).symm]
          exact n54
        · have e20 : jaU (jKt0 τ' q m Tk) 1 S1 20 = σ 20 := by rw [jaU_ne (by decide), p1 20 (by decide) (by omega), tn 20 (by decide) (by decide)]
          refine jaAk (k := 20) (B := σ 20) (P := fun τ => jaDe 12 jy_M_submit [jaMo, .inl (nI x)] τ (jaKi fun b σ2 => nI (jz ((σ 20).1 72 0) 32) = b ∧ jI σ2)) e20 ?_
          refine M _ _ (fun z => ?_) (fun _ _ c p hc => ?_) (fun q' q1 q2 _ u' n'' hu' hn' B' b72 b75 b76 b83 b33 y02 y18 f => ?_)
          · rcases z with z | z
            · exact absurd ⟨x, hx, rfl⟩ z
            · exact absurd z f24
          · have hc := hc.symm.trans hu
            cases hc
          · have hu'' := hu'.symm.trans hu
            have := Sum.inr.inj hu''
            obtain ⟨rfl, rfl⟩ := Prod.mk.inj this
            refine ⟨rfl, ?_⟩
            obtain ⟨w1, w2, w3⟩ := jvSb_W (x := jIx (σ 20)) (P := jsP u' (nI x) n'') hW h24 hn'
            have T0 : jaU (jKt0 τ' q m Tk) 1 S1 0 = jaUI (jaUI (τ' 0) 0 0 8 (nI ((q + 1) % 8))) 0 0 9 (nI (jvStM m)) := by rw [jaU_ne (by decide), p3]
            have To : ∀ o, o = 1 ∨ 5 ≤ o → (jaU (jKt0 τ' q m Tk) 1 S1 0).1 o = (σ 0).1 o := fun o ho => by
              have hne : o ≠ 0 := by omega
              rw [T0, ← pf.1 o ho, ← f2 o (by omega)]
              funext a
              simp (disch := first | omega | decide) only [jaU_eq, jaU_U, nI_add, pk_mul, jaIx_nI, vp_inT, true_and, and_true, ↓jaO0, ↓jaO1, nI_z, nI_z2, nI_z3, nI_z4, nI_z5, nI_lt', nI_le', nI_eq', jaUI_at, jaPt_eq, jaPt_ne, jaUI_o, jaUI_2, jaUL_at, jaUL_o, jaUL_1, jaB_z, jaB_1, ↓jaB_01, Classical.not_not, and_self, true_or, or_true, nI_11, Nat.reduceEqDiff, Nat.reduceAdd, Nat.reduceMul, Nat.add_zero, Nat.zero_add, Nat.mul_zero, not_true_eq_false, not_false_eq_true, false_implies, true_implies, hne]
            have Tv : ∀ j, j ≠ 8 → j ≠ 9 → (jaU (jKt0 τ' q m Tk) 1 S1 0).1 0 0 j = A'.1 0 0 j := fun j g8 g9 => by
              rw [T0, jaUI_at, jaPt_ne g9, jaUI_at, jaPt_ne g8, v0]
            refine jI_act (m := m) (q := q) (x' := jvSb (jIx (σ 20)) (jsP u' (nI x) n'')) hI hm hq h9 hk8 (fun k k0 k1 k2 k3 k20 => by rw [jaU_ne k1, p1 k k0 k3, tn k k0 k1]) ⟨⟨0, by decide, (Tv 1 (by decide) (by decide)).trans a1, y02⟩, by rw [Tv 3 (by decide) (by decide), a3, y18], fun j hj => ?_⟩ ?_ ?_ ((Tv 11 (by decide) (by decide)).trans (pf.2 11 (by decide) (by decide))) (by rw [To 15 (by decide)]) (by rw [T0, jaUI_at, jaPt_eq]) (by rw [T0, jaUI_at, jaPt_ne (by decide), jaUI_at, jaPt_eq]) (by rw [jaU_ne (by omega), p2]; exact rk) (fun i hi => by rw [jaU_ne (by omega), p2, nk i hi, lT]) (by rw [jaU_eq]; exact r1) (fun i _ => by rw [jaU_eq, l1]) w1 w2 (by rw [w3]; exact ht) b72 b75 b76 b83 b33 (fun o ho => f.s o (by revert ho; revert o; decide) (by rintro rfl; revert ho; decide)) (fun o ho => f.l o (by revert ho; revert o; decide) (by rintro rfl; revert ho; decide))
            · rw [To 1 (by decide), f.s 71 (by decide) (by decide)]
              exact t4 j hj
            · unfold jIb
              rw [Tv 17 (by decide) (by decide), pf.2 17 (by decide) (by decide), To 10 (by decide), f.f 43 (by decide), f.s 88 (by decide) (by decide)]
              exact h6
            · unfold jIf
              rw [To 16 (by decide), To 17 (by decide), f.f 37 (by decide), f.f 38 (by decide), f.f 39 (by decide), f.s 86 (by decide) (by decide)]
              exact h7
      · obtain ⟨f1, f2⟩ := fr
        rw [jaU_eq] at f2
        rw [n1] at fs
        have rT : jR (τ' 1) (jIx (σ 20)) := jR_f hR hW fs
        have lT : (τ' 1).2 = (σ 1).2 := by
          rw [fs.2.1]
          rfl
        have hI1 := jI_S1 (S' := τ' 1) hI rT lT
        refine ⟨fun z => absurd rfl z, fun _ => ?_⟩
        refine sp_A_faultBelow (by omega) fl ?_
        generalize hτ : jaU τ' 0 (jaUI (τ' 0) 0 0 3 (nI c)) = τ
        have τ0 : τ 0 = jaUI (τ' 0) 0 0 3 (nI c) := by rw [← hτ, jaU_eq]
        have tn : ∀ q, q ≠ 0 → q ≠ 1 → τ q = σ q := fun q h1 h2 => by rw [← hτ, jaU_ne h1, f1 q h1 h2, jaU_ne h1]
        have τ1 : τ 1 = τ' 1 := by rw [← hτ, jaU_ne (by decide)]
        have T0 : ∀ j, j ≠ 1 → j ≠ 3 → (τ 0).1 0 0 j = (σ 0).1 0 0 j := fun j g1 g3 => by
          rw [τ0, jaUI_at, jaPt_ne g3, f2 0 (by omega), pf.2 j g1 g3]
        have To : ∀ o, o = 1 ∨ 5 ≤ o → (τ 0).1 o = (σ 0).1 o := fun o ho => by
          have hne : o ≠ 0 := by omega
          rw [τ0, ← pf.1 o ho, ← f2 o (by omega)]
          funext a
          simp (disch := first | omega | decide) only [jaU_eq, jaU_U, nI_add, pk_mul, jaIx_nI, vp_inT, true_and, and_true, ↓jaO0, ↓jaO1, nI_z, nI_z2, nI_z3, nI_z4, nI_z5, nI_lt', nI_le', nI_eq', jaUI_at, jaPt_eq, jaPt_ne, jaUI_o, jaUI_2, jaUL_at, jaUL_o, jaUL_1, jaB_z, jaB_1, ↓jaB_01, Classical.not_not, and_self, true_or, or_true, nI_11, Nat.reduceEqDiff, Nat.reduceAdd, Nat.reduceMul, Nat.add_zero, Nat.zero_add, Nat.mul_zero, not_true_eq_false, not_false_eq_true, false_implies, true_implies, hne]
        refine jaAk (k := 20) (B := σ 20) (P := fun τ => jaDe 12 jy_M_submit [jaMo, .inl (nI x)] τ (jaKi fun b σ2 => (-2 : Int32) - nI (jtAt X p) = b ∧ jI σ2)) (tn 20 (by decide) (by decide)) ?_
        refine M _ _ (fun z => ?_) (fun _ _ c' p' hc' B' fl' b2 f => ?_) (fun q' q1 q2 _ u' n'' hu' => ?_)
        · rcases z with z | z
          · exact absurd ⟨x, hx, rfl⟩ z
          · exact absurd z f24
        · have hcc := hc'.symm.trans hc
          have := Sum.inl.inj hcc
          obtain ⟨rfl, rfl⟩ := Prod.mk.inj this
          refine ⟨rfl, ?_⟩
          have e20 : jaU σ 1 (τ' 1) 20 = σ 20 := jaU_ne (by decide)
          have e00 : jaU σ 1 (τ' 1) 0 = σ 0 := jaU_ne (by decide)
          refine jI_A hI1 (fun q q0 _ _ => ?_) ⟨⟨0, by decide, ?_, b2⟩, ?_, fun j hj => ?_⟩ ?_ ?_ (fun j hj => ?_) (by rw [e00, To 15 (by decide)]) (fun o ho => by rw [e20]; exact f.s o (by revert ho; revert o; decide) (by rintro rfl; revert ho; decide)) (fun o ho => by rw [e20]; exact f.l o (by revert ho; revert o; decide) (by rintro rfl; revert ho; decide)) (by rw [e20]; exact f.f 33 (by decide))
          · by_cases q1 : q = 1
            · rw [q1, jaU_eq, τ1]
            · rw [jaU_ne q1, tn q q0 q1]
          · rw [τ0, jaUI_at, jaPt_ne (by decide), f2 0 (by omega)]
            exact a1
          · rw [τ0, jaUI_at, jaPt_eq]
            exact fl'.1.symm
          · rw [To 1 (by decide), f.s 71 (by decide) (by decide)]
            exact t4 j hj
          · unfold jIb
            rw [T0 17 (by decide) (by decide), To 10 (by decide), f.f 43 (by decide), f.s 88 (by decide) (by decide)]
            exact h6
          · unfold jIf
            rw [To 16 (by decide), To 17 (by decide), f.f 37 (by decide), f.f 38 (by decide), f.f 39 (by decide), f.s 86 (by decide) (by decide)]
            exact h7
          · rw [e00]
            exact T0 j (fun e => by rw [e] at hj; revert hj; decide) (fun e => by rw [e] at hj; revert hj; decide)
        · have hc := hu'.symm.trans hc
          cases hc
  · have N := M0 (Or.inl c)
    exact ⟨fun _ => N, fun y => ⟨fun _ => N, fun z => absurd ((jxInC (by omega)).mp ⟨y, z⟩) c⟩⟩
end
