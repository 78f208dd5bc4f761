section
/-! the class: holds -/
def jgB (P : Int64) (st : List Prop) : Prop := ∀ (j : Nat) (b : Prop), st[j]? = some b → (jaLb P j ↔ b)
theorem jgB_c {P : Int64} {b : Prop} {r : List Prop} (h0 : jaLb P 0 ↔ b) (hr : ∀ (j : Nat) (a : Prop), r[j]? = some a → (jaLb P (j + 1) ↔ a)) : jgB P (b :: r)
  | 0, _, h => by cases h; exact h0
  | j + 1, a, h => hr j a h
theorem jgB_h {P : Int64} {b : Prop} {r : List Prop} (h : jgB P (b :: r)) : (jaLb P 0 ↔ b) ∧ ∀ (j : Nat) (a : Prop), r[j]? = some a → (jaLb P (j + 1) ↔ a) := ⟨h 0 b rfl, fun j a hj => h (j + 1) a hj⟩
theorem jgLt {A : Type} {l : List A} {j : Nat} {c : A} (h : l[j]? = some c) : j < l.length := by
  rcases Nat.lt_or_ge j l.length with z | z
  · exact z
  · rw [List.getElem?_eq_none z] at h
    cases h
set_option maxHeartbeats 4000000 in
theorem sp_Sn_holds {D : Nat} (hD : 4 ≤ D) {kk : Int32 → jaT → Prop} {τ : jaT} {s d e : jvA} {k i : Nat} {l : List jbY} (hT : jgT0 (τ k) l) (hl : l.length ≤ 39) (hok : ∀ c, c ∈ l → jgOk c) (hP : jgP l 0) (hR : jR (τ 1) (s, d, e)) (hW : jW s d e) (hi : i < jz s 34)
    (h : ∀ b, jgEv (jgLf s e i) l [] = [b] → kk (jaB b) τ) : jaDe D jy_Sn_holds [jcSn k, jcSt 1, .inl (nI i), .inl (jaB (jvRdy s e 0 i))] τ (jaKi kk) := by
  obtain ⟨D, rfl, hD⟩ := jaSuc hD
  have L : ∀ (rest done : List jbY) (st : List Prop) (x4 : Int64) (u : Option jaV), l = done ++ rest → jgP rest st.length → st.length ≤ done.length → jgB x4 st → (∀ b, jgEv (jgLf s e i) rest st = [b] → kk (jaB b) τ) → jc_Sn_holds_1 D kk k 1 (nI i) (jaB (jvRdy s e 0 i)) x4 (nI done.length) u τ := by
    intro rest
    induction rest with
    | nil =>
      intro done st x4 u hd hp hs hb h
      have hl2 : l.length = done.length := by rw [hd, List.append_nil]
      obtain ⟨b, rfl⟩ : ∃ b, st = [b] := by
        have hp : st.length = 1 := hp
        rcases st with _ | ⟨b, r⟩
        · exact absurd hp (by simp)
        · rcases r with _ | ⟨b2, r⟩
          · exact ⟨b, rfl⟩
          · rw [List.length_cons, List.length_cons] at hp
            omega
      have hk := h b rfl
      have b0 := (jgB_h hb).1
      obtain ⟨t1, t0⟩ := jaB_h hk
      apply jb_Sn_holds_1
      rw [hT.1, hl2]
      simp (disch := first | omega | decide) only [jaU_eq, jaU_U, nI_add, pk_mul, jaIx_nI, vp_inT, true_and, and_true, ↓jaO0, ↓jaO1, nI_z, nI_z2, nI_z3, nI_z4, nI_z5, nI_lt', nI_le', nI_eq', jaUI_at, jaPt_eq, jaPt_ne, jaUI_o, jaUI_2, jaUL_at, jaUL_o, jaUL_1, jaB_z, jaB_1, ↓jaB_01, Classical.not_not, and_self, true_or, or_true, nI_11, Nat.reduceEqDiff, Nat.reduceAdd, Nat.reduceMul, Nat.add_zero, Nat.zero_add, Nat.mul_zero, not_true_eq_false, not_false_eq_true, false_implies, true_implies, jaL_b0]
      exact ⟨fun _ => ⟨fun z => t0 (fun y => z (b0.mpr y)), fun z => t1 (b0.mp z)⟩, fun z => absurd (Nat.le_refl _) z⟩
    | cons c rest ih =>
      intro done st x4 u hd hp hs hb h
      have hl2 : l.length = done.length + (rest.length + 1) := by rw [hd, List.length_append, List.length_cons]
      have hc : l[done.length]? = some c := by
        rw [hd, List.getElem?_append_right (Nat.le_refl _), Nat.sub_self]
        rfl
      have hm : c ∈ l := by
        rw [hd]
        exact List.mem_append.mpr (Or.inr List.mem_cons_self)
      obtain ⟨k1, k2, k3⟩ := hT.2 _ _ hc
      have hco := hok c hm
      have hn : done.length < 40 := by omega
      have hd2 : l = (done ++ [c]) ++ rest := by rw [hd, List.append_assoc]; rfl
      have hln : (done ++ [c]).length = done.length + 1 := by rw [List.length_append]; rfl
      have NX : ∀ st' x4' u', jgSp (jgLf s e i) c st = st' → jgP rest st'.length → st'.length ≤ done.length + 1 → jgB x4' st' → jc_Sn_holds_1 D kk k 1 (nI i) (jaB (jvRdy s e 0 i)) x4' (nI (done.length + 1)) u' τ := by
        intro st' x4' u' e1 e2 e3 e4
        have := ih (done ++ [c]) st' x4' u' hd2 e2 (by rw [hln]; exact e3) e4 (fun b hb => h b (by rw [jgEv, e1]; exact hb))
        rw [hln] at this
        exact this
      apply jb_Sn_holds_1
      rw [hT.1]
      rcases hp with ⟨w1, w2, w3⟩ | ⟨w1, w2, w3⟩ | ⟨w1, w3⟩
      · -- not
        have ek : jgKi c.1 = 115 := by rw [w1]; rfl
        rw [ek] at k1
        simp (disch := first | omega | decide) only [jaU_eq, jaU_U, nI_add, pk_mul, jaIx_nI, vp_inT, true_and, and_true, ↓jaO0, ↓jaO1, nI_z, nI_z2, nI_z3, nI_z4, nI_z5, nI_lt', nI_le', nI_eq', jaUI_at, jaPt_eq, jaPt_ne, jaUI_o, jaUI_2, jaUL_at, jaUL_o, jaUL_1, jaB_z, jaB_1, ↓jaB_01, Classical.not_not, and_self, true_or, or_true, nI_11, Nat.reduceEqDiff, Nat.reduceAdd, Nat.reduceMul, Nat.add_zero, Nat.zero_add, Nat.mul_zero, not_true_eq_false, not_false_eq_true, false_implies, true_implies, k1]
        refine ⟨fun z => absurd z (by omega), fun _ => ⟨fun z => absurd z (by decide), ?_⟩⟩
        rcases st with _ | ⟨b, r⟩
        · exact absurd w2 (by simp)
        · obtain ⟨b0, br⟩ := jgB_h hb
          have hsl : r.length < done.length := hs
          refine NX ((¬ b) :: r) _ _ (jgSp_n w1) w3 (by rw [List.length_cons]; omega) (jgB_c ?_ (fun j a hj => ?_))
          · rw [jaL_x1 (by decide)]
            constructor
            · rintro (y | y)
              · exact fun v => y.2 (b0.mpr v)
              · exact absurd rfl y.1
            · intro y
              exact Or.inl ⟨rfl, fun v => y (b0.mp v)⟩
          · have := jgLt hj
            rw [jaL_x1 (by omega)]
            constructor
            · rintro (y | y)
              · omega
              · exact (br j a hj).mp y.2
            · intro y
              exact Or.inr ⟨by omega, (br j a hj).mpr y⟩
      · -- and, or
        rcases st with _ | ⟨b, r⟩
        · exact absurd w2 (by simp)
        · rcases r with _ | ⟨a, r⟩
          · exact absurd w2 (by simp)
          · obtain ⟨b0, br⟩ := jgB_h hb
            have a1 := br 0 a rfl
            have hsl : r.length + 1 < done.length := hs
            have w3 : jgP rest (r.length + 1) := w3
            rcases w1 with w1 | w1
            · have ek : jgKi c.1 = 114 := by rw [w1]; rfl
              rw [ek] at k1
              simp (disch := first | omega | decide) only [jaU_eq, jaU_U, nI_add, pk_mul, jaIx_nI, vp_inT, true_and, and_true, ↓jaO0, ↓jaO1, nI_z, nI_z2, nI_z3, nI_z4, nI_z5, nI_lt', nI_le', nI_eq', jaUI_at, jaPt_eq, jaPt_ne, jaUI_o, jaUI_2, jaUL_at, jaUL_o, jaUL_1, jaB_z, jaB_1, ↓jaB_01, Classical.not_not, and_self, true_or, or_true, nI_11, Nat.reduceEqDiff, Nat.reduceAdd, Nat.reduceMul, Nat.add_zero, Nat.zero_add, Nat.mul_zero, not_true_eq_false, not_false_eq_true, false_implies, true_implies, k1, jaL_b0]
              refine ⟨fun z => absurd z (by omega), fun _ => ⟨fun z => absurd z (by decide), fun z => ?_, fun z => ?_⟩⟩
              · refine NX ((a ∧ b) :: r) _ _ (jgSp_a w1) w3 (by rw [List.length_cons]; omega) (jgB_c ?_ (fun j q hj => ?_))
                · rw [jaL_a2 (by decide)]
                  exact ⟨fun y => absurd rfl y.2, fun y => absurd (b0.mpr y.2) z⟩
                · have := jgLt hj
                  rw [jaL_a2 (by omega), jaL_sr, show 1 + (j + 1) = j + 1 + 1 by omega]
                  exact ⟨fun y => (br (j + 1) q hj).mp y.1, fun y => ⟨(br (j + 1) q hj).mpr y, by omega⟩⟩
              · refine NX ((a ∧ b) :: r) _ _ (jgSp_a w1) w3 (by rw [List.length_cons]; omega) (jgB_c ?_ (fun j q hj => ?_))
                · rw [jaL_a1 (by decide), jaL_sr]
                  exact ⟨fun y => ⟨a1.mp y, b0.mp z⟩, fun y => a1.mpr y.1⟩
                · have := jgLt hj
                  rw [jaL_a1 (by omega), jaL_sr, show 1 + (j + 1) = j + 1 + 1 by omega]
                  exact br (j + 1) q hj
            · have ek : jgKi c.1 = 113 := by rw [w1]; rfl
              rw [ek] at k1
              simp (disch := first | omega | decide) only [jaU_eq, jaU_U, nI_add, pk_mul, jaIx_nI, vp_inT, true_and, and_true, ↓jaO0, ↓jaO1, nI_z, nI_z2, nI_z3, nI_z4, nI_z5, nI_lt', nI_le', nI_eq', jaUI_at, jaPt_eq, jaPt_ne, jaUI_o, jaUI_2, jaUL_at, jaUL_o, jaUL_1, jaB_z, jaB_1, ↓jaB_01, Classical.not_not, and_self, true_or, or_true, nI_11, Nat.reduceEqDiff, Nat.reduceAdd, Nat.reduceMul, Nat.add_zero, Nat.zero_add, Nat.mul_zero, not_true_eq_false, not_false_eq_true, false_implies, true_implies, k1, jaL_b0]
              refine ⟨fun z => absurd z (by omega), fun _ => ⟨fun z => absurd z (by decide), ?_⟩⟩
              refine NX ((a ∨ b) :: r) _ _ (jgSp_o w1) w3 (by rw [List.length_cons]; omega) (jgB_c ?_ (fun j q hj => ?_))
              · rw [jaL_o1 (by decide), jaL_sr]
                exact ⟨fun y => y.elim (fun v => Or.inl (a1.mp v)) (fun v => Or.inr (b0.mp v.1)), fun y => y.elim (fun v => Or.inl (a1.mpr v)) (fun v => Or.inr ⟨b0.mpr v, rfl⟩)⟩
              · have := jgLt hj
                rw [jaL_o1 (by omega), jaL_sr, show 1 + (j + 1) = j + 1 + 1 by omega]
                exact ⟨fun y => y.elim (fun v => (br (j + 1) q hj).mp v) (fun v => by omega), fun y => Or.inl ((br (j + 1) q hj).mpr y)⟩
      · -- one of them
        have ek : jgKi c.1 = 116 + c.1 := by
          unfold jgKi
          rw [if_neg (by omega), if_neg (by omega), if_neg (by omega)]
        have k1' := k1
        rw [ek] at k1'
        have hx : ∀ b ≤ 1, (jgLf s e i c ↔ b = 1) → jgB ((x4 <<< (Int32.toInt64 (nI 1) &&& 63)) ||| (Int32.toInt64 (nI b))) (jgLf s e i c :: st) := by
          intro b hb1 hbl
          refine jgB_c ?_ (fun j q hj => ?_)
          · rw [jaL_sl (by decide) hb1]
            exact ⟨fun y => y.elim (fun v => hbl.mpr v.2) (fun v => absurd v.1 (by decide)), fun y => Or.inl ⟨rfl, hbl.mp y⟩⟩
          · have := jgLt hj
            rw [jaL_sl (by omega) hb1, Nat.add_sub_cancel]
            exact ⟨fun y => y.elim (fun v => absurd v.1 (by omega)) (fun v => (hb j q hj).mp v.2), fun y => Or.inr ⟨by omega, (hb j q hj).mpr y⟩⟩
        simp (disch := first | omega | decide) only [jaU_eq, jaU_U, nI_add, pk_mul, jaIx_nI, vp_inT, true_and, and_true, ↓jaO0, ↓jaO1, nI_z, nI_z2, nI_z3, nI_z4, nI_z5, nI_lt', nI_le', nI_eq', jaUI_at, jaPt_eq, jaPt_ne, jaUI_o, jaUI_2, jaUL_at, jaUL_o, jaUL_1, jaB_z, jaB_1, ↓jaB_01, Classical.not_not, and_self, true_or, or_true, nI_11, Nat.reduceEqDiff, Nat.reduceAdd, Nat.reduceMul, Nat.add_zero, Nat.zero_add, Nat.mul_zero, not_true_eq_false, not_false_eq_true, false_implies, true_implies, k1']
        refine ⟨fun z => absurd z (by omega), fun _ => ⟨fun _ => ?_, fun z => absurd z (by omega), fun z => absurd z (by omega), fun z => absurd z (by omega)⟩⟩
        refine sp_Sn_isSo (by omega) hn k1 k2 k3 hco w1 hR hW hi ?_
        simp (disch := first | omega | decide) only [jaU_eq, jaU_U, nI_add, pk_mul, jaIx_nI, vp_inT, true_and, and_true, ↓jaO0, ↓jaO1, nI_z, nI_z2, nI_z3, nI_z4, nI_z5, nI_lt', nI_le', nI_eq', jaUI_at, jaPt_eq, jaPt_ne, jaUI_o, jaUI_2, jaUL_at, jaUL_o, jaUL_1, jaB_z, jaB_1, ↓jaB_01, Classical.not_not, and_self, true_or, or_true, nI_11, Nat.reduceEqDiff, Nat.reduceAdd, Nat.reduceMul, Nat.add_zero, Nat.zero_add, Nat.mul_zero, not_true_eq_false, not_false_eq_true, false_implies, true_implies]
        exact ⟨fun z => NX _ _ _ (jgSp_l w1) w3 (by rw [List.length_cons]; omega) (hx 0 (by decide) ⟨fun y => absurd y z, fun y => absurd y (by decide)⟩), fun z => NX _ _ _ (jgSp_l w1) w3 (by rw [List.length_cons]; omega) (hx 1 (by decide) ⟨fun _ => rfl, fun _ => z⟩)⟩
  apply js_Sn_holds
  exact L l [] [] _ none rfl hP (Nat.le_refl _) (fun j b hj => by cases hj) h
end
