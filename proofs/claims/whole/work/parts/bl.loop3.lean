section
/-! the law's loop: the three calls that may throw -/
theorem jI_22 {σ : jaT} {S' : jaS} (h : jI σ) : jI (jaU σ 22 S') := by
  obtain ⟨h1, h2, h3, h4, h5, h6, h7, h8⟩ := h
  have n : ∀ q, q ≠ 22 → jaU σ 22 S' q = σ q := fun q hq => jaU_ne hq
  unfold jI
  rw [n 0 (by decide), n 20 (by decide), n 1 (by decide)]
  refine ⟨h1, h2, ?_, ?_, ?_, h6, h7, ?_⟩
  · obtain ⟨m, q, a, b, c, d, e, i, k⟩ := h3
    refine ⟨m, q, a, b, c, d, e, i, fun j hj => ?_⟩
    rw [n _ (by omega), n 1 (by decide)]
    exact k j hj
  · obtain ⟨w, a, b, c⟩ := h4
    exact ⟨w, a, b, by rw [n _ (by omega)]; exact c⟩
  · intro k hk
    rw [n _ (by omega), n _ (by omega)]
    exact h5 k hk
  · unfold jIm
    rw [n 13 (by decide)]
    exact h8
theorem jgVal_u {s d e : jvA} (hW : jW s d e) {x1 x2 v v' : Int32} (h : jgVal s x1 x2 v) (h' : jgVal s x1 x2 v') : v = v' := by
  obtain ⟨c, q, a1, a2, rfl, rfl, rfl⟩ := h
  obtain ⟨c', q', b1, b2, e1, e2, rfl⟩ := h'
  have hc3 := hW.w.2.2.1.2.2
  have h10 := hW.w.2.1.2
  rw [nI_eq' (by omega) (by omega)] at e1 e2
  rw [e1, e2]
theorem jgKey_u {s d e : jvA} (hW : jW s d e) {x1 x2 v v' : Int32} (h : jgKey s x1 x2 v) (h' : jgKey s x1 x2 v') : v = v' := by
  obtain ⟨c, q, a1, a2, rfl, rfl, -, rfl⟩ := h
  obtain ⟨c', q', b1, b2, e1, e2, -, rfl⟩ := h'
  have h10 := hW.w.2.1.2
  rw [nI_eq' (by omega) (by omega)] at e1 e2
  rw [e1, e2]
theorem jgSer_u {s d e : jvA} (hW : jW s d e) {x1 v v' : Int32} (h : jgSer s d e x1 v) (h' : jgSer s d e x1 v') : v = v' := by
  obtain ⟨c, a1, rfl, rfl⟩ := h
  obtain ⟨c', b1, e1, rfl⟩ := h'
  have h10 := hW.w.2.1.2
  rw [nI_eq' (by omega) (by omega)] at e1
  rw [e1]
theorem jl_cmp (x : Int64) : lg_cmp x x = 0 := by
  unfold lg_cmp
  simp
set_option maxRecDepth 20000 in
set_option maxHeartbeats 1000000 in
theorem jl_value {L : Nat} {S : jaS} {P P1 : jaX} (c : jlC L S P) (c1 : jlC L S P1) {i : Int32} {o5 o6 : Option jaV} {σ : jaT} (hI : jI σ) (hin : vp_in (i + 1) L ∧ vp_in (i + 2) L ∧ vp_in (i + 3) L ∧ vp_in (i + 4) L ∧ vp_in (i + 5) L)
    (hW : ∀ (x1 x2 : Int32) (τ : jaT), jI τ → (∀ r u, jxW τ (jgVal ((τ 20).1 72 0) x1 x2) (some (.inl r)) u → P1 (jf_L_law.drop 248) (jlL i o5 o6) [.inl r] u) → P (jf_L_law.drop 247) (jlL i o5 o6) [jcO, .inl x2, .inl x1, jcA] τ)
    (hend : ∀ o5 o6 σ2, jI σ2 → P1 (jaAt jf_L_law jp_L_law 46) (jlL i o5 o6) [] σ2) : P (jaAt jf_L_law jp_L_law 13) (jlL i o5 o6) [] σ := by
  refine c.2 _ _ _ _ fun h21 => c.go 12 ?_
  show vp_in (i + 1) L ∧ (vp_in (i + 2) L ∧ P (jf_L_law.drop 247) (jlL i o5 o6) [jcO, .inl ((σ 21).1 96 0 (jaIx (i + 2))), .inl ((σ 21).1 96 0 (jaIx (i + 1))), jcA] σ)
  rw [h21]
  refine ⟨hin.1, hin.2.1, hW _ _ _ hI fun r u hu => c1.2 _ _ _ _ fun u21 => c1.go 13 ?_⟩
  show vp_in (i + 1) L ∧ (vp_in (i + 2) L ∧ jaDe 33 jy_M_value [jaMo, .inl ((u 21).1 96 0 (jaIx (i + 1))), .inl ((u 21).1 96 0 (jaIx (i + 2)))] u (jaKi fun r2 σ2 => P1 (jf_L_law.drop 261) (jlL i (some (.inl r)) o6) [.inl r2] σ2))
  rw [u21]
  have hIu : jI u := by
    rcases hu with ⟨-, v, τ0, -, h0, -, -, rfl⟩ | ⟨-, rfl, -⟩
    · exact jI_22 h0
    · exact hI
  have hu20 : u 20 = σ 20 := by
    rcases hu with ⟨-, v, τ0, -, h0, h20, -, rfl⟩ | ⟨-, rfl, -⟩
    · rw [jaU_ne (by decide)]; exact h20
    · rfl
  have hT : ∀ (v : Int32) (B : jaS), (B.1 70 0 0 = r) → (r = 0 → (u 22).2 97 0 0 = v.toInt64) → jI (jaU u 20 B) → P1 (jf_L_law.drop 261) (jlL i (some (.inl r)) o6) [.inl v] (jaU u 20 B) := by
    intro v B hB hv hIB
    refine c1.go 3 ?_
    show jaDe 33 jy_M_thrown [jaMo] (jaU u 20 B) (jaKi fun t σ3 => P1 (jf_L_law.drop 264) (jlL i (some (.inl r)) (some (.inl v))) [.inl t] σ3)
    refine js_M_thrown (D := 32) ?_
    rw [jaU_eq, hB]
    refine c1.go 2 ?_
    refine ⟨fun _ => c1.go 2 ?_, fun z => absurd rfl z⟩
    refine ⟨fun _ => c1.go 1 (hend _ _ _ hIB), fun hr => c1.go 5 ?_⟩
    show vp_in 0 1 ∧ P1 (jf_L_law.drop 276) (jlL i (some (.inl r)) (some (.inl v))) [.inr (.inl v.toInt64), .inr (.inl (((jaU u 20 B) 22).2 97 0 (jaIx 0)))] (jaU u 20 B)
    rw [jaU_ne (by decide), show jaIx 0 = 0 from by decide, hv hr]
    refine ⟨by rintro (z | z) <;> exact absurd z (by decide), c1.go 2 ?_⟩
    show (lg_cmp v.toInt64 v.toInt64 = 0 → _) ∧ (¬ lg_cmp v.toInt64 v.toInt64 = 0 → _)
    exact ⟨fun _ => c1.go 1 (hend _ _ _ hIB), fun z => absurd (jl_cmp _) z⟩
  refine ⟨hin.1, hin.2.1, jaCall_le jaAr jaMt 12 21 _ _ _ _ _ (fun _ _ h => h) (jg_M_value hIu (fun v B hv hIB hB => ?_) (fun hno B hIB hB => ?_))⟩
  · rcases hu with ⟨hr, v', τ0, hJ, h0, h20, -, rfl⟩ | ⟨-, rfl, hno⟩
    · cases hr
      rw [hu20] at hv
      refine hT v B hB (fun _ => ?_) hIB
      rw [jaU_eq, jgVal_u hI.W hv hJ]
      simp [jaUL]
    · exact absurd ⟨v, hv⟩ hno
  · rcases hu with ⟨hr, v', τ0, hJ, h0, h20, -, rfl⟩ | ⟨hr, rfl, -⟩
    · rw [hu20] at hno
      exact absurd ⟨v', hJ⟩ hno
    · cases hr
      exact hT _ B hB (fun z => absurd z (by decide)) hIB
set_option maxRecDepth 20000 in
set_option maxHeartbeats 1000000 in
theorem jl_key {L : Nat} {S : jaS} {P P1 : jaX} (c : jlC L S P) (c1 : jlC L S P1) {i : Int32} {o5 o6 : Option jaV} {σ : jaT} (hI : jI σ) (hin : vp_in (i + 1) L ∧ vp_in (i + 2) L ∧ vp_in (i + 3) L ∧ vp_in (i + 4) L ∧ vp_in (i + 5) L)
    (hW : ∀ (x1 x2 : Int32) (τ : jaT), jI τ → (∀ r u, jxW τ (jgKey ((τ 20).1 72 0) x1 x2) (some (.inl r)) u → P1 (jf_L_law.drop 296) (jlL i o5 o6) [.inl r] u) → P (jf_L_law.drop 295) (jlL i o5 o6) [jcO, .inl x2, .inl x1, jcA] τ)
    (hend : ∀ o5 o6 σ2, jI σ2 → P1 (jaAt jf_L_law jp_L_law 46) (jlL i o5 o6) [] σ2) : P (jaAt jf_L_law jp_L_law 16) (jlL i o5 o6) [] σ := by
  refine c.2 _ _ _ _ fun h21 => c.go 12 ?_
  show vp_in (i + 1) L ∧ (vp_in (i + 2) L ∧ P (jf_L_law.drop 295) (jlL i o5 o6) [jcO, .inl ((σ 21).1 96 0 (jaIx (i + 2))), .inl ((σ 21).1 96 0 (jaIx (i + 1))), jcA] σ)
  rw [h21]
  refine ⟨hin.1, hin.2.1, hW _ _ _ hI fun r u hu => c1.2 _ _ _ _ fun u21 => c1.go 13 ?_⟩
  show vp_in (i + 1) L ∧ (vp_in (i + 2) L ∧ jaDe 33 jy_M_key [jaMo, .inl ((u 21).1 96 0 (jaIx (i + 1))), .inl ((u 21).1 96 0 (jaIx (i + 2)))] u (jaKi fun r2 σ2 => P1 (jf_L_law.drop 309) (jlL i (some (.inl r)) o6) [.inl r2] σ2))
  rw [u21]
  have hIu : jI u := by
    rcases hu with ⟨-, v, τ0, -, h0, -, -, rfl⟩ | ⟨-, rfl, -⟩
    · exact jI_22 h0
    · exact hI
  have hu20 : u 20 = σ 20 := by
    rcases hu with ⟨-, v, τ0, -, h0, h20, -, rfl⟩ | ⟨-, rfl, -⟩
    · rw [jaU_ne (by decide)]; exact h20
    · rfl
  have hT : ∀ (v : Int32) (B : jaS), (B.1 70 0 0 = r) → (r = 0 → (u 22).2 97 0 0 = v.toInt64) → jI (jaU u 20 B) → P1 (jf_L_law.drop 309) (jlL i (some (.inl r)) o6) [.inl v] (jaU u 20 B) := by
    intro v B hB hv hIB
    refine c1.go 3 ?_
    show jaDe 33 jy_M_thrown [jaMo] (jaU u 20 B) (jaKi fun t σ3 => P1 (jf_L_law.drop 312) (jlL i (some (.inl r)) (some (.inl v))) [.inl t] σ3)
    refine js_M_thrown (D := 32) ?_
    rw [jaU_eq, hB]
    refine c1.go 2 ?_
    refine ⟨fun _ => c1.go 2 ?_, fun z => absurd rfl z⟩
    refine ⟨fun _ => c1.go 1 (hend _ _ _ hIB), fun hr => c1.go 5 ?_⟩
    show vp_in 0 1 ∧ P1 (jf_L_law.drop 324) (jlL i (some (.inl r)) (some (.inl v))) [.inr (.inl v.toInt64), .inr (.inl (((jaU u 20 B) 22).2 97 0 (jaIx 0)))] (jaU u 20 B)
    rw [jaU_ne (by decide), show jaIx 0 = 0 from by decide, hv hr]
    refine ⟨by rintro (z | z) <;> exact absurd z (by decide), c1.go 2 ?_⟩
    show (lg_cmp v.toInt64 v.toInt64 = 0 → _) ∧ (¬ lg_cmp v.toInt64 v.toInt64 = 0 → _)
    exact ⟨fun _ => c1.go 1 (hend _ _ _ hIB), fun z => absurd (jl_cmp _) z⟩
  refine ⟨hin.1, hin.2.1, jaCall_le jaAr jaMt 12 21 _ _ _ _ _ (fun _ _ h => h) (jg_M_key hIu (fun v B hv hIB hB => ?_) (fun hno B hIB hB => ?_))⟩
  · rcases hu with ⟨hr, v', τ0, hJ, h0, h20, -, rfl⟩ | ⟨-, rfl, hno⟩
    · cases hr
      rw [hu20] at hv
      refine hT v B hB (fun _ => ?_) hIB
      rw [jaU_eq, jgKey_u hI.W hv hJ]
      simp [jaUL]
    · exact absurd ⟨v, hv⟩ hno
  · rcases hu with ⟨hr, v', τ0, hJ, h0, h20, -, rfl⟩ | ⟨hr, rfl, -⟩
    · rw [hu20] at hno
      exact absurd ⟨v', hJ⟩ hno
    · cases hr
      exact hT _ B hB (fun z => absurd z (by decide)) hIB
set_option maxRecDepth 20000 in
set_option maxHeartbeats 1000000 in
theorem jl_serial {L : Nat} {S : jaS} {P P1 : jaX} (c : jlC L S P) (c1 : jlC L S P1) {i : Int32} {o5 o6 : Option jaV} {σ : jaT} (hI : jI σ) (hin : vp_in (i + 1) L ∧ vp_in (i + 2) L ∧ vp_in (i + 3) L ∧ vp_in (i + 4) L ∧ vp_in (i + 5) L)
    (hW : ∀ (x1 : Int32) (τ : jaT), jI τ → (∀ r u, jxW τ (jgSer ((τ 20).1 72 0) ((τ 20).1 75 0) ((τ 20).1 76 0) x1) (some (.inl r)) u → P1 (jf_L_law.drop 573) (jlL i o5 o6) [.inl r] u) → P (jf_L_law.drop 572) (jlL i o5 o6) [jcO, .inl x1, jcA] τ)
    (hend : ∀ o5 o6 σ2, jI σ2 → P1 (jaAt jf_L_law jp_L_law 46) (jlL i o5 o6) [] σ2) : P (jaAt jf_L_law jp_L_law 27) (jlL i o5 o6) [] σ := by
  refine c.2 _ _ _ _ fun h21 => c.go 7 ?_
  show vp_in (i + 1) L ∧ P (jf_L_law.drop 572) (jlL i o5 o6) [jcO, .inl ((σ 21).1 96 0 (jaIx (i + 1))), jcA] σ
  rw [h21]
  refine ⟨hin.1, hW _ _ hI fun r u hu => c1.2 _ _ _ _ fun u21 => c1.go 8 ?_⟩
  show vp_in (i + 1) L ∧ jaDe 33 jy_M_serial [jaMo, .inl ((u 21).1 96 0 (jaIx (i + 1)))] u (jaKi fun r2 σ2 => P1 (jf_L_law.drop 581) (jlL i (some (.inl r)) o6) [.inl r2] σ2)
  rw [u21]
  have hIu : jI u := by
    rcases hu with ⟨-, v, τ0, -, h0, -, -, rfl⟩ | ⟨-, rfl, -⟩
    · exact jI_22 h0
    · exact hI
  have hu20 : u 20 = σ 20 := by
    rcases hu with ⟨-, v, τ0, -, h0, h20, -, rfl⟩ | ⟨-, rfl, -⟩
    · rw [jaU_ne (by decide)]; exact h20
    · rfl
  have hT : ∀ (v : Int32) (B : jaS), (B.1 70 0 0 = r) → (r = 0 → (u 22).2 97 0 0 = v.toInt64) → jI (jaU u 20 B) → P1 (jf_L_law.drop 581) (jlL i (some (.inl r)) o6) [.inl v] (jaU u 20 B) := by
    intro v B hB hv hIB
    refine c1.go 3 ?_
    show jaDe 33 jy_M_thrown [jaMo] (jaU u 20 B) (jaKi fun t σ3 => P1 (jf_L_law.drop 584) (jlL i (some (.inl r)) (some (.inl v))) [.inl t] σ3)
    refine js_M_thrown (D := 32) ?_
    rw [jaU_eq, hB]
    refine c1.go 2 ?_
    refine ⟨fun _ => c1.go 2 ?_, fun z => absurd rfl z⟩
    refine ⟨fun _ => c1.go 1 (hend _ _ _ hIB), fun hr => c1.go 5 ?_⟩
    show vp_in 0 1 ∧ P1 (jf_L_law.drop 596) (jlL i (some (.inl r)) (some (.inl v))) [.inr (.inl v.toInt64), .inr (.inl (((jaU u 20 B) 22).2 97 0 (jaIx 0)))] (jaU u 20 B)
    rw [jaU_ne (by decide), show jaIx 0 = 0 from by decide, hv hr]
    refine ⟨by rintro (z | z) <;> exact absurd z (by decide), c1.go 2 ?_⟩
    show (lg_cmp v.toInt64 v.toInt64 = 0 → _) ∧ (¬ lg_cmp v.toInt64 v.toInt64 = 0 → _)
    exact ⟨fun _ => c1.go 1 (hend _ _ _ hIB), fun z => absurd (jl_cmp _) z⟩
  refine ⟨hin.1, jaCall_le jaAr jaMt 12 21 _ _ _ _ _ (fun _ _ h => h) (jg_M_serial hIu (fun v B hv hIB hB => ?_) (fun hno B hIB hB => ?_))⟩
  · rcases hu with ⟨hr, v', τ0, hJ, h0, h20, -, rfl⟩ | ⟨-, rfl, hno⟩
    · cases hr
      rw [hu20] at hv
      refine hT v B hB (fun _ => ?_) hIB
      rw [jaU_eq, jgSer_u hI.W hv hJ]
      simp [jaUL]
    · exact absurd ⟨v, hv⟩ hno
  · rcases hu with ⟨hr, v', τ0, hJ, h0, h20, -, rfl⟩ | ⟨hr, rfl, -⟩
    · rw [hu20] at hno
      exact absurd ⟨v', hJ⟩ hno
    · cases hr
      exact hT _ B hB (fun z => absurd z (by decide)) hIB
end
