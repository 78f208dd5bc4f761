section
/-! the reference: world -/
theorem sp_M_world {D : Nat} (hD : 9 ≤ D) {kk : Int32 → jaT → Prop} {σ : jaT} {S : jaS} {X : jtX} {s : jvA} (hn : S.1 70 0 2 = nI X.2.1) (hl : X.2.1 ≤ 940) (hlim : X.2.2 = 900) (hX : ∀ q, X.1 q < 256) (ht : ∀ j, j < 940 → S.1 71 0 j &&& nI 255 = nI (X.1 j)) (hv : jmV S) (hs : S.1 72 0 = s)
    (h : ∀ w n, jwAll X 941 jwNo 0 0 = .inr (w, n) → jwW w → jwD w → ∀ S', S'.1 72 0 = jvW0 s (jwUn w.1) → (∀ j, j < 16 → jwU (jwUn w.1) j → S'.2 78 0 j = Int64.ofNat (w.2.1 j)) → S'.1 70 0 33 = nI 0 → S'.1 70 0 2 = nI 0 → S'.1 70 0 18 = nI 0 → jaFr [72, 73, 78] (0 :: 2 :: 3 :: 5 :: 33 :: 22 :: 23 :: jmG) S S' → kk (nI n) (jaU σ 20 S'))
    (hf : ∀ c p, jwAll X 941 jwNo 0 0 = .inl (c, p) → ∀ S', jmFl S' X c p → S'.1 70 0 2 = nI 0 → (∀ j, j < 16 → S'.2 78 0 j = S.2 78 0 j) → jaFr [73, 78] (0 :: 2 :: 3 :: 5 :: 22 :: 23 :: jmG) S S' → kk ((-1) - nI (jtAt X p)) (jaU σ 20 S')) : jaDe D jy_M_world [jaMo] (jaU σ 20 S) (jaKi kk) := by
  obtain ⟨D, rfl, hD⟩ := jaSuc hD
  apply js_M_world
  simp only [jaU_eq, jaU_U]
  refine sp_M_taken (n := X.2.1) (by omega) (by simp (disch := first | omega | decide) only [jaU_eq, jaU_U, nI_add, pk_mul, jaIx_nI, vp_inT, true_and, and_true, ↓jaO0, ↓jaO1, nI_z, nI_z2, nI_z3, nI_z4, nI_z5, nI_lt', nI_le', nI_eq', jaUI_at, jaPt_eq, jaPt_ne, jaUI_o, jaUI_2, jaUL_at, jaUL_o, jaUL_1, jaB_z, jaB_1, ↓jaB_01, Classical.not_not, and_self, true_or, or_true, nI_11, Nat.reduceEqDiff, Nat.reduceAdd, Nat.reduceMul, Nat.add_zero, Nat.zero_add, Nat.mul_zero, not_true_eq_false, not_false_eq_true, false_implies, true_implies, hn]) (fun S1 t3 t2 t4 t5 f1 => ?_)
  simp only [jaU_eq, jaU_U]
  refine sp_M_clears (by omega) (fun S2 c2 f2 => ?_)
  have f12 : jaFr [73] (0 :: 2 :: 3 :: 5 :: 22 :: 23 :: jmG) S S2 := (((((jaFr.rfl.uf (by decide)).trans (f1.mono (by decide) (by decide))).uf (by decide)).uf (by decide)).uf (by decide)).trans (f2.mono (by decide) (by decide))
  have T2 : jmT S2 X := ⟨fun j hj => by rw [f12.s 71 (by decide) (by decide)]; exact ht j hj, by rw [f2.f 3 List.not_mem_nil]; simp (disch := first | omega | decide) only [jaU_eq, jaU_U, nI_add, pk_mul, jaIx_nI, vp_inT, true_and, and_true, ↓jaO0, ↓jaO1, nI_z, nI_z2, nI_z3, nI_z4, nI_z5, nI_lt', nI_le', nI_eq', jaUI_at, jaPt_eq, jaPt_ne, jaUI_o, jaUI_2, jaUL_at, jaUL_o, jaUL_1, jaB_z, jaB_1, ↓jaB_01, Classical.not_not, and_self, true_or, or_true, nI_11, Nat.reduceEqDiff, Nat.reduceAdd, Nat.reduceMul, Nat.add_zero, Nat.zero_add, Nat.mul_zero, not_true_eq_false, not_false_eq_true, false_implies, true_implies, t3], by rw [f2.f 5 List.not_mem_nil]; simp (disch := first | omega | decide) only [jaU_eq, jaU_U, nI_add, pk_mul, jaIx_nI, vp_inT, true_and, and_true, ↓jaO0, ↓jaO1, nI_z, nI_z2, nI_z3, nI_z4, nI_z5, nI_lt', nI_le', nI_eq', jaUI_at, jaPt_eq, jaPt_ne, jaUI_o, jaUI_2, jaUL_at, jaUL_o, jaUL_1, jaB_z, jaB_1, ↓jaB_01, Classical.not_not, and_self, true_or, or_true, nI_11, Nat.reduceEqDiff, Nat.reduceAdd, Nat.reduceMul, Nat.add_zero, Nat.zero_add, Nat.mul_zero, not_true_eq_false, not_false_eq_true, false_implies, true_implies, t5]; rw [hlim], by omega, by rw [f2.f 18 List.not_mem_nil]; simp (disch := first | omega | decide) only [jaU_eq, jaU_U, nI_add, pk_mul, jaIx_nI, vp_inT, true_and, and_true, ↓jaO0, ↓jaO1, nI_z, nI_z2, nI_z3, nI_z4, nI_z5, nI_lt', nI_le', nI_eq', jaUI_at, jaPt_eq, jaPt_ne, jaUI_o, jaUI_2, jaUL_at, jaUL_o, jaUL_1, jaB_z, jaB_1, ↓jaB_01, Classical.not_not, and_self, true_or, or_true, nI_11, Nat.reduceEqDiff, Nat.reduceAdd, Nat.reduceMul, Nat.add_zero, Nat.zero_add, Nat.mul_zero, not_true_eq_false, not_false_eq_true, false_implies, true_implies]⟩
  refine sp_M_next (i := 0) (by omega) T2 hX hl (by rw [f2.f 4 List.not_mem_nil]; simp (disch := first | omega | decide) only [jaU_eq, jaU_U, nI_add, pk_mul, jaIx_nI, vp_inT, true_and, and_true, ↓jaO0, ↓jaO1, nI_z, nI_z2, nI_z3, nI_z4, nI_z5, nI_lt', nI_le', nI_eq', jaUI_at, jaPt_eq, jaPt_ne, jaUI_o, jaUI_2, jaUL_at, jaUL_o, jaUL_1, jaB_z, jaB_1, ↓jaB_01, Classical.not_not, and_self, true_or, or_true, nI_11, Nat.reduceEqDiff, Nat.reduceAdd, Nat.reduceMul, Nat.add_zero, Nat.zero_add, Nat.mul_zero, not_true_eq_false, not_false_eq_true, false_implies, true_implies, t4]; rfl) (Nat.zero_le _) (fun S3 a3 f3 => ?_)
  have F3 : jaFr [73, 78] (0 :: 2 :: 3 :: 5 :: 22 :: 23 :: jmG) S S3 := (f12.mono (by decide) (by decide)).trans (f3.mono (by decide) (by decide))
  have N3 : S3.2 78 = S.2 78 := (f3.l 78 (by decide) (by decide)).trans (f12.l 78 (by decide) (by decide))
  have z2 : S3.1 70 0 2 = nI 0 := by
    rw [f3.f 2 (by decide), f2.f 2 List.not_mem_nil]
    simp (disch := first | omega | decide) only [jaU_eq, jaU_U, nI_add, pk_mul, jaIx_nI, vp_inT, true_and, and_true, ↓jaO0, ↓jaO1, nI_z, nI_z2, nI_z3, nI_z4, nI_z5, nI_lt', nI_le', nI_eq', jaUI_at, jaPt_eq, jaPt_ne, jaUI_o, jaUI_2, jaUL_at, jaUL_o, jaUL_1, jaB_z, jaB_1, ↓jaB_01, Classical.not_not, and_self, true_or, or_true, nI_11, Nat.reduceEqDiff, Nat.reduceAdd, Nat.reduceMul, Nat.add_zero, Nat.zero_add, Nat.mul_zero, not_true_eq_false, not_false_eq_true, false_implies, true_implies, t2]
  refine sp_M_worldL (S0 := S3) (by omega) hl 941 jwNo 0 0 S3 (by omega) (by omega) (by omega) jwNo_W.1 jwNo_W.2 ⟨fun j hj => by rw [f3.s 73 (by decide) (by decide)]; exact c2 j hj, ?_, fun j hj hu => ?_⟩ ⟨a3, jmR.w hv ((f3.l 79 (by decide) (by decide)).trans (f12.l 79 (by decide) (by decide)))⟩ ?_ jaFr.rfl (fun _ _ => rfl) (fun w n e hw hd S4 E4 n4 z18 F4 G4 => ?_) (fun c p e S4 E4 F4 G4 => ?_)
  · rw [f3.f 23 (by decide), f2.f 23 List.not_mem_nil]
    simp (disch := first | omega | decide) only [jaU_eq, jaU_U, nI_add, pk_mul, jaIx_nI, vp_inT, true_and, and_true, ↓jaO0, ↓jaO1, nI_z, nI_z2, nI_z3, nI_z4, nI_z5, nI_lt', nI_le', nI_eq', jaUI_at, jaPt_eq, jaPt_ne, jaUI_o, jaUI_2, jaUL_at, jaUL_o, jaUL_1, jaB_z, jaB_1, ↓jaB_01, Classical.not_not, and_self, true_or, or_true, nI_11, Nat.reduceEqDiff, Nat.reduceAdd, Nat.reduceMul, Nat.add_zero, Nat.zero_add, Nat.mul_zero, not_true_eq_false, not_false_eq_true, false_implies, true_implies]
    rfl
  · have z : ∀ j, j ≠ 3 → j ≠ 4 → jz jwNo.1 j = 0 := fun j a b => by rw [jz, show jwNo.1 j = nI 0 from (jaIf1_f a).trans (jaIf1_f b), jaIx_nI (by omega)]
    unfold jwU at hu
    rw [z 0 (by decide) (by decide), z 1 (by decide) (by decide), z 2 (by decide) (by decide)] at hu
    omega
  · rw [f3.f 22 (by decide), f2.f 22 List.not_mem_nil]
    simp (disch := first | omega | decide) only [jaU_eq, jaU_U, nI_add, pk_mul, jaIx_nI, vp_inT, true_and, and_true, ↓jaO0, ↓jaO1, nI_z, nI_z2, nI_z3, nI_z4, nI_z5, nI_lt', nI_le', nI_eq', jaUI_at, jaPt_eq, jaPt_ne, jaUI_o, jaUI_2, jaUL_at, jaUL_o, jaUL_1, jaB_z, jaB_1, ↓jaB_01, Classical.not_not, and_self, true_or, or_true, nI_11, Nat.reduceEqDiff, Nat.reduceAdd, Nat.reduceMul, Nat.add_zero, Nat.zero_add, Nat.mul_zero, not_true_eq_false, not_false_eq_true, false_implies, true_implies]
  · refine sp_M_world6 (s := s) E4.1 (by rw [F4.s 72 (by decide) (by decide), F3.s 72 (by decide) (by decide)]; exact hs) (fun S5 a5 b5 f5 => sp_M_world10 (fun S6 a6 f6 => ?_))
    refine sp_M_world12 (h0 := jwUn w.1) (s := s) (n := n) (fun j => ?_) (by rw [f6.f 22 List.not_mem_nil, f5.f 22 List.not_mem_nil]; exact n4) (fun S7 a7 b7 f7 => ?_)
    · rw [f6.s 72 (by decide) (by decide)]
      by_cases q : j < 706
      · rw [a5 j q, jaIf1_t (p := j < 706) q]
      · rw [b5 j (by omega), jaIf1_f (by omega), jaIf1_f q]
    · refine h w n e hw hd S7 a7 (fun j hj hu => ?_) b7 ?_ ?_ ((F3.mono (by decide) (by decide)).trans ((F4.mono (by decide) (by decide)).trans ((f5.mono (by decide) (by decide)).trans ((f6.mono (by decide) (by decide)).trans (f7.mono (by decide) (by decide))))))
      · rw [f7.l 78 (by decide) (by decide), a6 j hj, f5.l 78 (by decide) (by decide)]
        exact E4.2 j hj hu
      · rw [f7.f 2 (by decide), f6.f 2 List.not_mem_nil, f5.f 2 List.not_mem_nil, F4.f 2 (by decide)]
        exact z2
      · rw [f7.f 18 (by decide), f6.f 18 List.not_mem_nil, f5.f 18 List.not_mem_nil]
        exact z18
  · refine hf c p e S4 E4 ?_ (fun j hj => by rw [G4 j hj, N3]) (F3.trans (F4.mono (by decide) (by decide)))
    rw [F4.f 2 (by decide)]
    exact z2
end
