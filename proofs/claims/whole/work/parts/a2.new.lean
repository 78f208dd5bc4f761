section
/-! what is submitted arrives -/
set_option maxHeartbeats 1000000 in
theorem sp_St_arriveNew {D : Nat} (hD : 4 ≤ D) {kk : Int32 → jaT → Prop} {τ : jaT} {S T : jaS} {s d e P : jvA} {k : Nat} {x : Int32} (hR : jR S (s, d, e)) (hW : jW s d e) (h24 : jz s 32 < 24) (hT : τ k = T) (f : jsF (jz s 32) (jaUI S 55 0 (jz s 32) x) T)
    (p0 : P 0 = x) (p1 : T.1 56 0 (jz s 32) = P 1) (p2 : T.1 57 0 (jz s 32) = P 2) (p3 : ∀ j, j < jz P 2 → T.1 58 0 (4 * jz s 32 + j) = P (3 + j)) (p4 : ∀ i, i < jz P 1 → jRq (T.1 59 0) P (42 * jz s 32 + 7 * i) (7 + 21 * i)) (hn : jWn (jz s 1) (jvCp d (133 * jz s 32) P 0 133) (jz s 32))
    (h : ∀ S', jR S' (jvSb (s, d, e) P) → S'.2 = S.2 → kk (nI (jz s 32)) (jaU τ k S')) : jaDe D jy_St_arriveNew [jcSt k] τ (jaKi kk) := by
  obtain ⟨D, rfl, hD⟩ := jaSuc hD
  have hM := hW.o.many
  have hP := hW.o.pool
  have hC := hW.o.came
  have hO := hW.o.ord
  have w2 : jz s 33 < 64 := (jvNew_W (d := jvCp d (133 * jz s 32) P 0 133) (jW_d hW (fun j hj => jvCp_out (Or.inl hj))) h24 hn).2
  have o54 : S.1 54 0 0 = nI (jz s 32) := hR.s.1.trans hM.1
  have o54' : T.1 54 0 0 = nI (jz s 32) := by
    rw [f.1 54 (by decide), jaUI_o (by decide)]
    exact o54
  apply js_St_arriveNew
  rw [hT]
  simp (disch := first | omega | decide) only [jaU_eq, jaU_U, nI_add, pk_mul, jaIx_nI, vp_inT, true_and, and_true, ↓jaO0, ↓jaO1, nI_z, nI_z2, nI_z3, nI_z4, nI_z5, nI_lt', nI_le', nI_eq', jaUI_at, jaPt_eq, jaPt_ne, jaUI_o, jaUI_2, jaUL_at, jaUL_o, jaUL_1, jaB_z, jaB_1, ↓jaB_01, Classical.not_not, and_self, true_or, or_true, nI_11, Nat.reduceEqDiff, Nat.reduceAdd, Nat.reduceMul, Nat.add_zero, Nat.zero_add, Nat.mul_zero, not_true_eq_false, not_false_eq_true, false_implies, true_implies, o54']
  have hWd := jW_d (d' := jvCp d (133 * jz s 32) P 0 133) hW (fun j hj => jvCp_out (Or.inl hj))
  have ne : ∀ j, j ≠ 32 → jaPt s 32 (s 32 + nI 1) j = s j := fun j hj => jaPt_ne hj
  have e32 : jaPt s 32 (s 32 + nI 1) 32 = nI (jz s 32 + 1) := by rw [jaPt_eq, hM.1, nI_add]
  have z32 : jz (jaPt s 32 (s 32 + nI 1)) 32 = jz s 32 + 1 := (congrArg jaIx e32).trans (jaIx_nI (by omega))
  have nz : ∀ j, j ≠ 32 → jz (jaPt s 32 (s 32 + nI 1)) j = jz s j := fun j hj => jz_c (ne j hj)
  unfold jvSb at h
  simp only [] at h
  have hpdn : ∀ j, j < 133 → jvCp d (133 * jz s 32) P 0 133 (133 * jz s 32 + j) = P j := fun j hj => by rw [jvCp_in hj, Nat.zero_add]
  have hpdo : ∀ j, j < 133 * jz s 32 → jvCp d (133 * jz s 32) P 0 133 j = d j := fun j hj => jvCp_out (Or.inl hj)
  generalize jvCp d (133 * jz s 32) P 0 133 = d1 at *
  generalize jaPt s 32 (s 32 + nI 1) = p at *
  have hso : ∀ o, o ≠ 54 → ¬ (55 ≤ o ∧ o < 60) → (jaUI T 54 0 0 (nI (jz s 32 + 1))).1 o = S.1 o := fun o b1 b2 => by
    rw [jaUI_o b1, f.1 o (by omega), jaUI_o (by omega)]
  have so : ∀ o, o ≠ 54 → (jaUI T 54 0 0 (nI (jz s 32 + 1))).1 o = T.1 o := fun o b1 => jaUI_o b1
  have t54 : (jaUI T 54 0 0 (nI (jz s 32 + 1))).1 54 0 0 = nI (jz s 32 + 1) := by
    rw [jaUI_at, jaPt_eq]
  have t55 : T.1 55 0 = jaPt (S.1 55 0) (jz s 32) x := by rw [f.1 55 (by decide), jaUI_at]
  have tl : (jaUI T 54 0 0 (nI (jz s 32 + 1))).2 = S.2 := by
    show T.2 = S.2
    rw [f.2.1]
    rfl
  have told : ∀ o, 56 ≤ o → o < 60 → (jaUI S 55 0 (jz s 32) x).1 o = S.1 o := fun o h1 _ => jaUI_o (by omega)
  generalize jaUI T 54 0 0 (nI (jz s 32 + 1)) = S2 at *
  have hR2 : jR S2 (p, d1, e) := by
    have h10 := hW.w.2.1.2
    have h3 := hW.w.2.2.1
    have h38 := hW.k38
    have h40 := hW.k.2.1.2
    refine ⟨jRw_c (fun j hj => ne j (by omega)) hW.w (jRw_S (fun o h1 h2 => hso o (by omega) (by omega)) hR.w), ⟨by rw [t54]; exact e32.symm, fun m hm => ?_⟩, fun id hid => ?_, jRo_c (fun j hj => ne j (by omega)) hW.o (jRo_S (fun o ho => hso o (by omega) (by omega)) hR.o), jRc_c (fun j hj => ne j (by omega)) h3.2.2 h10 hO.2 (jRc_S (fun o h1 h2 => hso o (by omega) (by omega)) hR.c), jRk_c (fun j hj => ne j (by omega)) h10 (by omega) (by omega) (jRk_S (fun o h1 h2 => hso o (by omega) (by omega)) hR.k), ?_, jRp_c (fun j hj => ne j (by omega)) hC.2 (jRp_S (hso 66 (by decide) (by omega)) hR.p)⟩
    · have hm : m < jz p 32 := hm
      rw [z32] at hm
      show jRt S2 d1 m
      by_cases e1 : m = jz s 32
      · subst e1
        obtain ⟨-, -, n1, n2, -, n5⟩ := hn
        have q1 : d1 (133 * jz s 32 + 1) = P 1 := hpdn 1 (by decide)
        have q2 : d1 (133 * jz s 32 + 2) = P 2 := hpdn 2 (by decide)
        have z1 : jz d1 (133 * jz s 32 + 1) = jz P 1 := congrArg jaIx q1
        have z2 : jz d1 (133 * jz s 32 + 2) = jz P 2 := congrArg jaIx q2
        refine ⟨?_, ?_, ?_, fun j hj => ?_, fun i hi => ?_⟩
        · rw [so 55 (by decide), t55, jaPt_eq, ← p0]
          exact (hpdn 0 (by decide)).symm
        · rw [so 56 (by decide), p1, q1]
        · rw [so 57 (by decide), p2, q2]
        · rw [z2] at hj n2
          rw [so 58 (by decide), p3 j hj, Nat.add_assoc]
          exact (hpdn (3 + j) (by omega)).symm
        · have n5 := n5 i hi
          rw [z1] at hi n1
          obtain ⟨-, -, -, ⟨-, n54⟩, -⟩ := n5
          have ed : ∀ j, j < 21 → d1 (133 * jz s 32 + 7 + 21 * i + j) = P (7 + 21 * i + j) := fun j hj => by
            rw [show 133 * jz s 32 + 7 + 21 * i + j = 133 * jz s 32 + (7 + 21 * i + j) by omega]
            exact hpdn _ (by omega)
          rw [so 59 (by decide)]
          refine jRq_m (C := T.1 59 0) (d := P) (p := 42 * jz s 32 + 7 * i) (t := 7 + 21 * i) (fun j _ => rfl) ed ?_ (p4 i hi)
          rw [show jz P (7 + 21 * i + 4) = jz d1 (133 * jz s 32 + 7 + 21 * i + 4) from (congrArg jaIx (ed 4 (by decide))).symm]
          exact n54
      · have hm2 : m < jz s 32 := by omega
        have hr := hR.s.2 m hm2
        refine jRt_m (n := m) (hW.d m hm2) ?_ ?_ ?_ (fun j hj => ?_) (fun j hj => ?_) (fun j h1 h2 => hpdo _ (by omega)) hr
        · rw [so 55 (by decide), t55, jaPt_ne e1, hpdo _ (by omega)]
          exact hr.1
        · rw [so 56 (by decide), f.2.2.1 56 m (by decide) (by decide) e1, told 56 (by decide) (by decide)]
        · rw [so 57 (by decide), f.2.2.1 57 m (by decide) (by decide) e1, told 57 (by decide) (by decide)]
        · rw [so 58 (by decide), f.2.2.2.1 _ (by omega), told 58 (by decide) (by decide)]
        · rw [so 59 (by decide), f.2.2.2.2 _ (by omega), told 59 (by decide) (by decide)]
    · have hid : id < jz p 33 := hid
      rw [nz 33 (by omega)] at hid
      have hi := (hW.e id hid).1.2
      obtain ⟨r1, r2, r3, r4, r5⟩ := hR.e id hid
      show jRi S2 d1 e id
      unfold jRi
      rw [hso 61 (by decide) (by omega), hso 62 (by decide) (by omega), hso 63 (by decide) (by omega), hso 64 (by decide) (by omega), hso 67 (by decide) (by omega), show jz d1 (133 * jz e (9 * id) + 2) = jz d (133 * jz e (9 * id) + 2) from congrArg jaIx (hpdo _ (by omega))]
      exact ⟨r1, r2, r3, r4, r5⟩
    · show S2.1 40 0 5 = p 31
      rw [hso 40 (by decide) (by omega), ne 31 (by omega)]
      exact hR.t
  have hWd2 : jWd p d1 := fun m hm => by
    rw [z32] at hm
    rw [nz 1 (by omega)]
    by_cases q2 : m = jz s 32
    · rw [q2]; exact hn
    · exact hWd.d m (by omega)
  have hWe2 : jWe p d1 e := fun id hid => by
    rw [nz 33 (by omega)] at hid
    rw [nz 1 (by omega), z32]
    exact jWi_d (by omega) (fun _ _ _ _ => rfl) (fun n hn => hWd.d n hn) (hWd.e id hid)
  have hcnt := hW.o.2.2.2.2.1
  refine sp_St_arriveEntry (by omega) hR2 (jWw_c (fun j hj => ne j (by omega)) hW.w) hWd2 hWe2 (by rw [z32]; omega) (by rw [z32]; omega) (by rw [nz 33 (by omega), ne 33 (by omega)]; exact hP.1) (by rw [nz 33 (by omega)]; exact w2) (by rw [nz 34 (by omega)]; exact hO.2) (by rw [nz 35 (by omega), ne 35 (by omega)]; exact hC.1) (by rw [nz 35 (by omega)]; omega) (fun i hi => ?_) (fun i hi => ?_) (fun S' a b => h S' a ((congrArg Prod.fst b).trans tl))
  · rw [nz 34 (by omega)] at hi
    rw [nz (41 + i) (by omega), nz 33 (by omega)]
    exact (hW.o.id hi).2
  · have := hC.2
    rw [nz 35 (by omega)] at hi
    rw [nz (81 + i) (by omega), nz 33 (by omega)]
    exact (hW.o.come hi).2
end
