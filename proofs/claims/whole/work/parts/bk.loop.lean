section
/-! the law's loop: one call of every kind -/
abbrev jcS : jaV := .inr (.inr (96, 21, 0))
def jlGo (Ar : List jaA) (Γ : jaG) (f : List jaI) (ps : List Nat) (Q : jaQ) (P : jaX) : Nat → jaX
  | 0 => P
  | n + 1 => jaStep Ar Γ Q P (jlGo Ar Γ f ps Q P n) (fun a => P (jaAt f ps a))
theorem jlGo_P {Ar : List jaA} {Γ : jaG} {f : List jaI} {ps : List Nat} {Q : jaQ} {P : jaX} (hΓ : jaLe Γ Γ) (hP : ∀ is ls st σ, jaStep Ar Γ Q P P (fun a => P (jaAt f ps a)) is ls st σ → P is ls st σ) : ∀ (n : Nat) (is : List jaI) (ls : List (Option jaV)) (st : List jaV) (σ : jaT), jlGo Ar Γ f ps Q P n is ls st σ → P is ls st σ
  | 0, _, _, _, _, h => h
  | n + 1, _, _, _, _, h => hP _ _ _ _ (jaStep_mono hΓ (fun _ _ h => h) (fun _ _ _ _ h => h) (fun _ _ _ _ h => jlGo_P hΓ hP n _ _ _ _ h) (fun _ _ _ _ h => h) _ _ _ _ h)
def jlAr (L : Nat) : List jaA := jaAr.set 96 (7, L, 0, 0, false, false)
def jlQ : jaQ := fun r _ => r = some (.inl 1)
/-- closed under steps, and reading the script -/
def jlC (L : Nat) (S : jaS) (P : jaX) : Prop :=
  (∀ is ls st σ, jaStep (jlAr L) (jaDe 33) jlQ P P (fun a => P (jaAt jf_L_law jp_L_law a)) is ls st σ → P is ls st σ) ∧ (∀ is ls st σ, (σ 21 = S → P is ls st σ) → P is ls st σ)
theorem jlC.go {L : Nat} {S : jaS} {P : jaX} (c : jlC L S P) (n : Nat) {is : List jaI} {ls : List (Option jaV)} {st : List jaV} {σ : jaT} (h : jlGo (jlAr L) (jaDe 33) jf_L_law jp_L_law jlQ P n is ls st σ) : P is ls st σ := jlGo_P (jaCall_self jaAr jaMt 33) c.1 n _ _ _ _ h
theorem jl_face {L : Nat} {S : jaS} {P : jaX} (c : jlC L S P) {yA yM : Nat} {as : List jaV} (F : jFc yA yM as) {d0 d1 d2 : Nat} {LS : List (Option jaV)} {σ : jaT} (hI : jI σ)
    (hA : σ 21 = S → jaDe 33 yA (jcA :: as) σ (jaKi fun r σ1 => P (jf_L_law.drop d1) LS [.inl r] σ1) → P (jf_L_law.drop d0) LS [] σ)
    (hB : ∀ r σ1, σ1 21 = S → jaDe 33 yM (jaMo :: as) σ1 (jaKi fun r2 σ2 => P (jf_L_law.drop d2) LS [.inl r2, .inl r] σ2) → P (jf_L_law.drop d1) LS [.inl r] σ1)
    (hC : ∀ r σ2, P (jaAt jf_L_law jp_L_law 46) LS [] σ2 → P (jf_L_law.drop d2) LS [.inl r, .inl r] σ2)
    (hend : ∀ σ2, jI σ2 → P (jaAt jf_L_law jp_L_law 46) LS [] σ2) : P (jf_L_law.drop d0) LS [] σ := by
  refine c.2 _ _ _ _ fun h21 => hA h21 ?_
  refine jaCall_self jaAr jaMt 33 _ _ _ _ _ (fun r τ h => ?_) (F σ hI)
  match r, h with
  | some (.inl x), h =>
    refine c.2 _ _ _ _ fun h21 => hB x τ h21 ?_
    refine jaCall_le jaAr jaMt 12 21 _ _ _ _ _ (fun r τ h => ?_) h
    match r, h with
    | some (.inl x), h =>
      obtain ⟨rfl, hI2⟩ := h
      exact hC _ _ (hend _ hI2)
def jlL (i : Int32) (o5 o6 : Option jaV) : List (Option jaV) := [some jcS, some jcA, some jaMo, some jcO, some (.inl i), o5, o6]
set_option maxRecDepth 20000 in
theorem jl_feed {L : Nat} {S : jaS} {P : jaX} (c : jlC L S P) {i : Int32} {o5 o6 : Option jaV} {σ : jaT} (hI : jI σ) (hin : vp_in (i + 1) L ∧ vp_in (i + 2) L ∧ vp_in (i + 3) L ∧ vp_in (i + 4) L ∧ vp_in (i + 5) L)
    (hend : ∀ σ2, jI σ2 → P (jaAt jf_L_law jp_L_law 46) (jlL i o5 o6) [] σ2) : P (jaAt jf_L_law jp_L_law 2) (jlL i o5 o6) [] σ := by
  refine jl_face c (as := [.inl (S.1 96 0 (jaIx (i + 1))), .inl (S.1 96 0 (jaIx (i + 2))), .inl (S.1 96 0 (jaIx (i + 3))), .inl (S.1 96 0 (jaIx (i + 4))), .inl (S.1 96 0 (jaIx (i + 5)))]) jf_feed (d0 := 27) (d1 := 54) (d2 := 81) hI (fun h21 h => c.go 27 ?_) (fun r σ1 h21 h => c.go 27 ?_) (fun r σ2 h => c.go 1 ?_) hend
  · show vp_in (i + 1) L ∧ (vp_in (i + 2) L ∧ (vp_in (i + 3) L ∧ (vp_in (i + 4) L ∧ (vp_in (i + 5) L ∧ jaDe 33 jy_A_feed [jcA, .inl ((σ 21).1 96 0 (jaIx (i + 1))), .inl ((σ 21).1 96 0 (jaIx (i + 2))), .inl ((σ 21).1 96 0 (jaIx (i + 3))), .inl ((σ 21).1 96 0 (jaIx (i + 4))), .inl ((σ 21).1 96 0 (jaIx (i + 5)))] σ (jaKi fun r σ1 => P (jf_L_law.drop 54) (jlL i o5 o6) [.inl r] σ1)))))
    rw [h21]
    exact ⟨hin.1, hin.2.1, hin.2.2.1, hin.2.2.2.1, hin.2.2.2.2, h⟩
  · show vp_in (i + 1) L ∧ (vp_in (i + 2) L ∧ (vp_in (i + 3) L ∧ (vp_in (i + 4) L ∧ (vp_in (i + 5) L ∧ jaDe 33 jy_M_feed [jaMo, .inl ((σ1 21).1 96 0 (jaIx (i + 1))), .inl ((σ1 21).1 96 0 (jaIx (i + 2))), .inl ((σ1 21).1 96 0 (jaIx (i + 3))), .inl ((σ1 21).1 96 0 (jaIx (i + 4))), .inl ((σ1 21).1 96 0 (jaIx (i + 5)))] σ1 (jaKi fun r2 σ2 => P (jf_L_law.drop 81) (jlL i o5 o6) [.inl r2, .inl r] σ2)))))
    rw [h21]
    exact ⟨hin.1, hin.2.1, hin.2.2.1, hin.2.2.2.1, hin.2.2.2.2, h⟩
  · exact ⟨fun _ => h, fun z => absurd rfl z⟩
set_option maxRecDepth 20000 in
theorem jl_end {L : Nat} {S : jaS} {P : jaX} (c : jlC L S P) {i : Int32} {o5 o6 : Option jaV} {σ : jaT} (hI : jI σ) (hin : vp_in (i + 1) L ∧ vp_in (i + 2) L ∧ vp_in (i + 3) L ∧ vp_in (i + 4) L ∧ vp_in (i + 5) L)
    (hend : ∀ σ2, jI σ2 → P (jaAt jf_L_law jp_L_law 46) (jlL i o5 o6) [] σ2) : P (jaAt jf_L_law jp_L_law 3) (jlL i o5 o6) [] σ := by
  refine jl_face c (as := [.inl (S.1 96 0 (jaIx (i + 1)))]) jf_end (d0 := 85) (d1 := 92) (d2 := 99) hI (fun h21 h => c.go 7 ?_) (fun r σ1 h21 h => c.go 7 ?_) (fun r σ2 h => c.go 1 ?_) hend
  · show vp_in (i + 1) L ∧ jaDe 33 jy_A_end [jcA, .inl ((σ 21).1 96 0 (jaIx (i + 1)))] σ (jaKi fun r σ1 => P (jf_L_law.drop 92) (jlL i o5 o6) [.inl r] σ1)
    rw [h21]
    exact ⟨hin.1, h⟩
  · show vp_in (i + 1) L ∧ jaDe 33 jy_M_end [jaMo, .inl ((σ1 21).1 96 0 (jaIx (i + 1)))] σ1 (jaKi fun r2 σ2 => P (jf_L_law.drop 99) (jlL i o5 o6) [.inl r2, .inl r] σ2)
    rw [h21]
    exact ⟨hin.1, h⟩
  · exact ⟨fun _ => h, fun z => absurd rfl z⟩
set_option maxRecDepth 20000 in
theorem jl_world {L : Nat} {S : jaS} {P : jaX} (c : jlC L S P) {i : Int32} {o5 o6 : Option jaV} {σ : jaT} (hI : jI σ) (hin : vp_in (i + 1) L ∧ vp_in (i + 2) L ∧ vp_in (i + 3) L ∧ vp_in (i + 4) L ∧ vp_in (i + 5) L)
    (hend : ∀ σ2, jI σ2 → P (jaAt jf_L_law jp_L_law 46) (jlL i o5 o6) [] σ2) : P (jaAt jf_L_law jp_L_law 4) (jlL i o5 o6) [] σ := by
  refine jl_face c (as := []) jf_world (d0 := 103) (d1 := 105) (d2 := 107) hI (fun h21 h => c.go 2 ?_) (fun r σ1 h21 h => c.go 2 ?_) (fun r σ2 h => c.go 1 ?_) hend
  · show jaDe 33 jy_A_world [jcA] σ (jaKi fun r σ1 => P (jf_L_law.drop 105) (jlL i o5 o6) [.inl r] σ1)
    skip
    exact h
  · show jaDe 33 jy_M_world [jaMo] σ1 (jaKi fun r2 σ2 => P (jf_L_law.drop 107) (jlL i o5 o6) [.inl r2, .inl r] σ2)
    skip
    exact h
  · exact ⟨fun _ => h, fun z => absurd rfl z⟩
set_option maxRecDepth 20000 in
theorem jl_fault {L : Nat} {S : jaS} {P : jaX} (c : jlC L S P) {i : Int32} {o5 o6 : Option jaV} {σ : jaT} (hI : jI σ) (hin : vp_in (i + 1) L ∧ vp_in (i + 2) L ∧ vp_in (i + 3) L ∧ vp_in (i + 4) L ∧ vp_in (i + 5) L)
    (hend : ∀ σ2, jI σ2 → P (jaAt jf_L_law jp_L_law 46) (jlL i o5 o6) [] σ2) : P (jaAt jf_L_law jp_L_law 5) (jlL i o5 o6) [] σ := by
  refine jl_face c (as := []) jf_fault (d0 := 111) (d1 := 113) (d2 := 115) hI (fun h21 h => c.go 2 ?_) (fun r σ1 h21 h => c.go 2 ?_) (fun r σ2 h => c.go 1 ?_) hend
  · show jaDe 33 jy_A_fault [jcA] σ (jaKi fun r σ1 => P (jf_L_law.drop 113) (jlL i o5 o6) [.inl r] σ1)
    skip
    exact h
  · show jaDe 33 jy_M_fault [jaMo] σ1 (jaKi fun r2 σ2 => P (jf_L_law.drop 115) (jlL i o5 o6) [.inl r2, .inl r] σ2)
    skip
    exact h
  · exact ⟨fun _ => h, fun z => absurd rfl z⟩
set_option maxRecDepth 20000 in
theorem jl_submit {L : Nat} {S : jaS} {P : jaX} (c : jlC L S P) {i : Int32} {o5 o6 : Option jaV} {σ : jaT} (hI : jI σ) (hin : vp_in (i + 1) L ∧ vp_in (i + 2) L ∧ vp_in (i + 3) L ∧ vp_in (i + 4) L ∧ vp_in (i + 5) L)
    (hend : ∀ σ2, jI σ2 → P (jaAt jf_L_law jp_L_law 46) (jlL i o5 o6) [] σ2) : P (jaAt jf_L_law jp_L_law 6) (jlL i o5 o6) [] σ := by
  refine jl_face c (as := [.inl (S.1 96 0 (jaIx (i + 1)))]) jf_submit (d0 := 119) (d1 := 126) (d2 := 133) hI (fun h21 h => c.go 7 ?_) (fun r σ1 h21 h => c.go 7 ?_) (fun r σ2 h => c.go 1 ?_) hend
  · show vp_in (i + 1) L ∧ jaDe 33 jy_A_submit [jcA, .inl ((σ 21).1 96 0 (jaIx (i + 1)))] σ (jaKi fun r σ1 => P (jf_L_law.drop 126) (jlL i o5 o6) [.inl r] σ1)
    rw [h21]
    exact ⟨hin.1, h⟩
  · show vp_in (i + 1) L ∧ jaDe 33 jy_M_submit [jaMo, .inl ((σ1 21).1 96 0 (jaIx (i + 1)))] σ1 (jaKi fun r2 σ2 => P (jf_L_law.drop 133) (jlL i o5 o6) [.inl r2, .inl r] σ2)
    rw [h21]
    exact ⟨hin.1, h⟩
  · exact ⟨fun _ => h, fun z => absurd rfl z⟩
set_option maxRecDepth 20000 in
theorem jl_put {L : Nat} {S : jaS} {P : jaX} (c : jlC L S P) {i : Int32} {o5 o6 : Option jaV} {σ : jaT} (hI : jI σ) (hin : vp_in (i + 1) L ∧ vp_in (i + 2) L ∧ vp_in (i + 3) L ∧ vp_in (i + 4) L ∧ vp_in (i + 5) L)
    (hend : ∀ σ2, jI σ2 → P (jaAt jf_L_law jp_L_law 46) (jlL i o5 o6) [] σ2) : P (jaAt jf_L_law jp_L_law 7) (jlL i o5 o6) [] σ := by
  refine jl_face c (as := [.inl (S.1 96 0 (jaIx (i + 1))), .inl (S.1 96 0 (jaIx (i + 2)))]) jf_put (d0 := 137) (d1 := 149) (d2 := 161) hI (fun h21 h => c.go 12 ?_) (fun r σ1 h21 h => c.go 12 ?_) (fun r σ2 h => c.go 1 ?_) hend
  · show vp_in (i + 1) L ∧ (vp_in (i + 2) L ∧ jaDe 33 jy_A_put [jcA, .inl ((σ 21).1 96 0 (jaIx (i + 1))), .inl ((σ 21).1 96 0 (jaIx (i + 2)))] σ (jaKi fun r σ1 => P (jf_L_law.drop 149) (jlL i o5 o6) [.inl r] σ1))
    rw [h21]
    exact ⟨hin.1, hin.2.1, h⟩
  · show vp_in (i + 1) L ∧ (vp_in (i + 2) L ∧ jaDe 33 jy_M_put [jaMo, .inl ((σ1 21).1 96 0 (jaIx (i + 1))), .inl ((σ1 21).1 96 0 (jaIx (i + 2)))] σ1 (jaKi fun r2 σ2 => P (jf_L_law.drop 161) (jlL i o5 o6) [.inl r2, .inl r] σ2))
    rw [h21]
    exact ⟨hin.1, hin.2.1, h⟩
  · exact ⟨fun _ => h, fun z => absurd rfl z⟩
set_option maxRecDepth 20000 in
theorem jl_check {L : Nat} {S : jaS} {P : jaX} (c : jlC L S P) {i : Int32} {o5 o6 : Option jaV} {σ : jaT} (hI : jI σ) (hin : vp_in (i + 1) L ∧ vp_in (i + 2) L ∧ vp_in (i + 3) L ∧ vp_in (i + 4) L ∧ vp_in (i + 5) L)
    (hend : ∀ σ2, jI σ2 → P (jaAt jf_L_law jp_L_law 46) (jlL i o5 o6) [] σ2) : P (jaAt jf_L_law jp_L_law 8) (jlL i o5 o6) [] σ := by
  refine jl_face c (as := []) jf_check (d0 := 165) (d1 := 167) (d2 := 169) hI (fun h21 h => c.go 2 ?_) (fun r σ1 h21 h => c.go 2 ?_) (fun r σ2 h => c.go 1 ?_) hend
  · show jaDe 33 jy_A_check [jcA] σ (jaKi fun r σ1 => P (jf_L_law.drop 167) (jlL i o5 o6) [.inl r] σ1)
    skip
    exact h
  · show jaDe 33 jy_M_check [jaMo] σ1 (jaKi fun r2 σ2 => P (jf_L_law.drop 169) (jlL i o5 o6) [.inl r2, .inl r] σ2)
    skip
    exact h
  · exact ⟨fun _ => h, fun z => absurd rfl z⟩
set_option maxRecDepth 20000 in
theorem jl_crash {L : Nat} {S : jaS} {P : jaX} (c : jlC L S P) {i : Int32} {o5 o6 : Option jaV} {σ : jaT} (hI : jI σ) (hin : vp_in (i + 1) L ∧ vp_in (i + 2) L ∧ vp_in (i + 3) L ∧ vp_in (i + 4) L ∧ vp_in (i + 5) L)
    (hend : ∀ σ2, jI σ2 → P (jaAt jf_L_law jp_L_law 46) (jlL i o5 o6) [] σ2) : P (jaAt jf_L_law jp_L_law 9) (jlL i o5 o6) [] σ := by
  refine jl_face c (as := [.inl (S.1 96 0 (jaIx (i + 1)))]) jf_crash (d0 := 173) (d1 := 180) (d2 := 187) hI (fun h21 h => c.go 7 ?_) (fun r σ1 h21 h => c.go 7 ?_) (fun r σ2 h => c.go 1 ?_) hend
  · show vp_in (i + 1) L ∧ jaDe 33 jy_A_crash [jcA, .inl ((σ 21).1 96 0 (jaIx (i + 1)))] σ (jaKi fun r σ1 => P (jf_L_law.drop 180) (jlL i o5 o6) [.inl r] σ1)
    rw [h21]
    exact ⟨hin.1, h⟩
  · show vp_in (i + 1) L ∧ jaDe 33 jy_M_crash [jaMo, .inl ((σ1 21).1 96 0 (jaIx (i + 1)))] σ1 (jaKi fun r2 σ2 => P (jf_L_law.drop 187) (jlL i o5 o6) [.inl r2, .inl r] σ2)
    rw [h21]
    exact ⟨hin.1, h⟩
  · exact ⟨fun _ => h, fun z => absurd rfl z⟩
set_option maxRecDepth 20000 in
theorem jl_ticks {L : Nat} {S : jaS} {P : jaX} (c : jlC L S P) {i : Int32} {o5 o6 : Option jaV} {σ : jaT} (hI : jI σ) (hin : vp_in (i + 1) L ∧ vp_in (i + 2) L ∧ vp_in (i + 3) L ∧ vp_in (i + 4) L ∧ vp_in (i + 5) L)
    (hend : ∀ σ2, jI σ2 → P (jaAt jf_L_law jp_L_law 46) (jlL i o5 o6) [] σ2) : P (jaAt jf_L_law jp_L_law 10) (jlL i o5 o6) [] σ := by
  refine jl_face c (as := [.inl (S.1 96 0 (jaIx (i + 1)))]) jf_ticks (d0 := 191) (d1 := 198) (d2 := 205) hI (fun h21 h => c.go 7 ?_) (fun r σ1 h21 h => c.go 7 ?_) (fun r σ2 h => c.go 1 ?_) hend
  · show vp_in (i + 1) L ∧ jaDe 33 jy_A_ticks [jcA, .inl ((σ 21).1 96 0 (jaIx (i + 1)))] σ (jaKi fun r σ1 => P (jf_L_law.drop 198) (jlL i o5 o6) [.inl r] σ1)
    rw [h21]
    exact ⟨hin.1, h⟩
  · show vp_in (i + 1) L ∧ jaDe 33 jy_M_ticks [jaMo, .inl ((σ1 21).1 96 0 (jaIx (i + 1)))] σ1 (jaKi fun r2 σ2 => P (jf_L_law.drop 205) (jlL i o5 o6) [.inl r2, .inl r] σ2)
    rw [h21]
    exact ⟨hin.1, h⟩
  · exact ⟨fun _ => h, fun z => absurd rfl z⟩
set_option maxRecDepth 20000 in
theorem jl_undo {L : Nat} {S : jaS} {P : jaX} (c : jlC L S P) {i : Int32} {o5 o6 : Option jaV} {σ : jaT} (hI : jI σ) (hin : vp_in (i + 1) L ∧ vp_in (i + 2) L ∧ vp_in (i + 3) L ∧ vp_in (i + 4) L ∧ vp_in (i + 5) L)
    (hend : ∀ σ2, jI σ2 → P (jaAt jf_L_law jp_L_law 46) (jlL i o5 o6) [] σ2) : P (jaAt jf_L_law jp_L_law 11) (jlL i o5 o6) [] σ := by
  refine jl_face c (as := []) jf_undo (d0 := 209) (d1 := 211) (d2 := 213) hI (fun h21 h => c.go 2 ?_) (fun r σ1 h21 h => c.go 2 ?_) (fun r σ2 h => c.go 1 ?_) hend
  · show jaDe 33 jy_A_undo [jcA] σ (jaKi fun r σ1 => P (jf_L_law.drop 211) (jlL i o5 o6) [.inl r] σ1)
    skip
    exact h
  · show jaDe 33 jy_M_undo [jaMo] σ1 (jaKi fun r2 σ2 => P (jf_L_law.drop 213) (jlL i o5 o6) [.inl r2, .inl r] σ2)
    skip
    exact h
  · exact ⟨fun _ => h, fun z => absurd rfl z⟩
set_option maxRecDepth 20000 in
theorem jl_now {L : Nat} {S : jaS} {P : jaX} (c : jlC L S P) {i : Int32} {o5 o6 : Option jaV} {σ : jaT} (hI : jI σ) (hin : vp_in (i + 1) L ∧ vp_in (i + 2) L ∧ vp_in (i + 3) L ∧ vp_in (i + 4) L ∧ vp_in (i + 5) L)
    (hend : ∀ σ2, jI σ2 → P (jaAt jf_L_law jp_L_law 46) (jlL i o5 o6) [] σ2) : P (jaAt jf_L_law jp_L_law 12) (jlL i o5 o6) [] σ := by
  refine jl_face c (as := [.inl (S.1 96 0 (jaIx (i + 1)))]) jf_now (d0 := 217) (d1 := 224) (d2 := 231) hI (fun h21 h => c.go 7 ?_) (fun r σ1 h21 h => c.go 7 ?_) (fun r σ2 h => c.go 1 ?_) hend
  · show vp_in (i + 1) L ∧ jaDe 33 jy_A_now [jcA, .inl ((σ 21).1 96 0 (jaIx (i + 1)))] σ (jaKi fun r σ1 => P (jf_L_law.drop 224) (jlL i o5 o6) [.inl r] σ1)
    rw [h21]
    exact ⟨hin.1, h⟩
  · show vp_in (i + 1) L ∧ jaDe 33 jy_M_now [jaMo, .inl ((σ1 21).1 96 0 (jaIx (i + 1)))] σ1 (jaKi fun r2 σ2 => P (jf_L_law.drop 231) (jlL i o5 o6) [.inl r2, .inl r] σ2)
    rw [h21]
    exact ⟨hin.1, h⟩
  · exact ⟨fun _ => h, fun z => absurd rfl z⟩
set_option maxRecDepth 20000 in
theorem jl_trans {L : Nat} {S : jaS} {P : jaX} (c : jlC L S P) {i : Int32} {o5 o6 : Option jaV} {σ : jaT} (hI : jI σ) (hin : vp_in (i + 1) L ∧ vp_in (i + 2) L ∧ vp_in (i + 3) L ∧ vp_in (i + 4) L ∧ vp_in (i + 5) L)
    (hend : ∀ σ2, jI σ2 → P (jaAt jf_L_law jp_L_law 46) (jlL i o5 o6) [] σ2) : P (jaAt jf_L_law jp_L_law 19) (jlL i o5 o6) [] σ := by
  refine jl_face c (as := [.inl (S.1 96 0 (jaIx (i + 1))), .inl (S.1 96 0 (jaIx (i + 2)))]) jf_trans (d0 := 331) (d1 := 343) (d2 := 355) hI (fun h21 h => c.go 12 ?_) (fun r σ1 h21 h => c.go 12 ?_) (fun r σ2 h => c.go 1 ?_) hend
  · show vp_in (i + 1) L ∧ (vp_in (i + 2) L ∧ jaDe 33 jy_A_trans [jcA, .inl ((σ 21).1 96 0 (jaIx (i + 1))), .inl ((σ 21).1 96 0 (jaIx (i + 2)))] σ (jaKi fun r σ1 => P (jf_L_law.drop 343) (jlL i o5 o6) [.inl r] σ1))
    rw [h21]
    exact ⟨hin.1, hin.2.1, h⟩
  · show vp_in (i + 1) L ∧ (vp_in (i + 2) L ∧ jaDe 33 jy_M_trans [jaMo, .inl ((σ1 21).1 96 0 (jaIx (i + 1))), .inl ((σ1 21).1 96 0 (jaIx (i + 2)))] σ1 (jaKi fun r2 σ2 => P (jf_L_law.drop 355) (jlL i o5 o6) [.inl r2, .inl r] σ2))
    rw [h21]
    exact ⟨hin.1, hin.2.1, h⟩
  · exact ⟨fun _ => h, fun z => absurd rfl z⟩
set_option maxRecDepth 20000 in
theorem jl_arrived {L : Nat} {S : jaS} {P : jaX} (c : jlC L S P) {i : Int32} {o5 o6 : Option jaV} {σ : jaT} (hI : jI σ) (hin : vp_in (i + 1) L ∧ vp_in (i + 2) L ∧ vp_in (i + 3) L ∧ vp_in (i + 4) L ∧ vp_in (i + 5) L)
    (hend : ∀ σ2, jI σ2 → P (jaAt jf_L_law jp_L_law 46) (jlL i o5 o6) [] σ2) : P (jaAt jf_L_law jp_L_law 20) (jlL i o5 o6) [] σ := by
  refine jl_face c (as := [.inl (S.1 96 0 (jaIx (i + 1))), .inl (S.1 96 0 (jaIx (i + 2)))]) jf_arrived (d0 := 359) (d1 := 371) (d2 := 383) hI (fun h21 h => c.go 12 ?_) (fun r σ1 h21 h => c.go 12 ?_) (fun r σ2 h => c.go 1 ?_) hend
  · show vp_in (i + 1) L ∧ (vp_in (i + 2) L ∧ jaDe 33 jy_A_arrived [jcA, .inl ((σ 21).1 96 0 (jaIx (i + 1))), .inl ((σ 21).1 96 0 (jaIx (i + 2)))] σ (jaKi fun r σ1 => P (jf_L_law.drop 371) (jlL i o5 o6) [.inl r] σ1))
    rw [h21]
    exact ⟨hin.1, hin.2.1, h⟩
  · show vp_in (i + 1) L ∧ (vp_in (i + 2) L ∧ jaDe 33 jy_M_arrived [jaMo, .inl ((σ1 21).1 96 0 (jaIx (i + 1))), .inl ((σ1 21).1 96 0 (jaIx (i + 2)))] σ1 (jaKi fun r2 σ2 => P (jf_L_law.drop 383) (jlL i o5 o6) [.inl r2, .inl r] σ2))
    rw [h21]
    exact ⟨hin.1, hin.2.1, h⟩
  · exact ⟨fun _ => h, fun z => absurd rfl z⟩
set_option maxRecDepth 20000 in
theorem jl_entry {L : Nat} {S : jaS} {P : jaX} (c : jlC L S P) {i : Int32} {o5 o6 : Option jaV} {σ : jaT} (hI : jI σ) (hin : vp_in (i + 1) L ∧ vp_in (i + 2) L ∧ vp_in (i + 3) L ∧ vp_in (i + 4) L ∧ vp_in (i + 5) L)
    (hend : ∀ σ2, jI σ2 → P (jaAt jf_L_law jp_L_law 46) (jlL i o5 o6) [] σ2) : P (jaAt jf_L_law jp_L_law 21) (jlL i o5 o6) [] σ := by
  refine jl_face c (as := [.inl (S.1 96 0 (jaIx (i + 1))), .inl (S.1 96 0 (jaIx (i + 2)))]) jf_entry (d0 := 387) (d1 := 399) (d2 := 411) hI (fun h21 h => c.go 12 ?_) (fun r σ1 h21 h => c.go 12 ?_) (fun r σ2 h => c.go 1 ?_) hend
  · show vp_in (i + 1) L ∧ (vp_in (i + 2) L ∧ jaDe 33 jy_A_entry [jcA, .inl ((σ 21).1 96 0 (jaIx (i + 1))), .inl ((σ 21).1 96 0 (jaIx (i + 2)))] σ (jaKi fun r σ1 => P (jf_L_law.drop 399) (jlL i o5 o6) [.inl r] σ1))
    rw [h21]
    exact ⟨hin.1, hin.2.1, h⟩
  · show vp_in (i + 1) L ∧ (vp_in (i + 2) L ∧ jaDe 33 jy_M_entry [jaMo, .inl ((σ1 21).1 96 0 (jaIx (i + 1))), .inl ((σ1 21).1 96 0 (jaIx (i + 2)))] σ1 (jaKi fun r2 σ2 => P (jf_L_law.drop 411) (jlL i o5 o6) [.inl r2, .inl r] σ2))
    rw [h21]
    exact ⟨hin.1, hin.2.1, h⟩
  · exact ⟨fun _ => h, fun z => absurd rfl z⟩
set_option maxRecDepth 20000 in
theorem jl_how {L : Nat} {S : jaS} {P : jaX} (c : jlC L S P) {i : Int32} {o5 o6 : Option jaV} {σ : jaT} (hI : jI σ) (hin : vp_in (i + 1) L ∧ vp_in (i + 2) L ∧ vp_in (i + 3) L ∧ vp_in (i + 4) L ∧ vp_in (i + 5) L)
    (hend : ∀ σ2, jI σ2 → P (jaAt jf_L_law jp_L_law 46) (jlL i o5 o6) [] σ2) : P (jaAt jf_L_law jp_L_law 22) (jlL i o5 o6) [] σ := by
  refine jl_face c (as := [.inl (S.1 96 0 (jaIx (i + 1))), .inl (S.1 96 0 (jaIx (i + 2)))]) jf_how (d0 := 415) (d1 := 427) (d2 := 439) hI (fun h21 h => c.go 12 ?_) (fun r σ1 h21 h => c.go 12 ?_) (fun r σ2 h => c.go 1 ?_) hend
  · show vp_in (i + 1) L ∧ (vp_in (i + 2) L ∧ jaDe 33 jy_A_how [jcA, .inl ((σ 21).1 96 0 (jaIx (i + 1))), .inl ((σ 21).1 96 0 (jaIx (i + 2)))] σ (jaKi fun r σ1 => P (jf_L_law.drop 427) (jlL i o5 o6) [.inl r] σ1))
    rw [h21]
    exact ⟨hin.1, hin.2.1, h⟩
  · show vp_in (i + 1) L ∧ (vp_in (i + 2) L ∧ jaDe 33 jy_M_how [jaMo, .inl ((σ1 21).1 96 0 (jaIx (i + 1))), .inl ((σ1 21).1 96 0 (jaIx (i + 2)))] σ1 (jaKi fun r2 σ2 => P (jf_L_law.drop 439) (jlL i o5 o6) [.inl r2, .inl r] σ2))
    rw [h21]
    exact ⟨hin.1, hin.2.1, h⟩
  · exact ⟨fun _ => h, fun z => absurd rfl z⟩
set_option maxRecDepth 20000 in
theorem jl_foreseen {L : Nat} {S : jaS} {P : jaX} (c : jlC L S P) {i : Int32} {o5 o6 : Option jaV} {σ : jaT} (hI : jI σ) (hin : vp_in (i + 1) L ∧ vp_in (i + 2) L ∧ vp_in (i + 3) L ∧ vp_in (i + 4) L ∧ vp_in (i + 5) L)
    (hend : ∀ σ2, jI σ2 → P (jaAt jf_L_law jp_L_law 46) (jlL i o5 o6) [] σ2) : P (jaAt jf_L_law jp_L_law 23) (jlL i o5 o6) [] σ := by
  refine jl_face c (as := [.inl (S.1 96 0 (jaIx (i + 1))), .inl (S.1 96 0 (jaIx (i + 2)))]) jf_foreseen (d0 := 443) (d1 := 455) (d2 := 467) hI (fun h21 h => c.go 12 ?_) (fun r σ1 h21 h => c.go 12 ?_) (fun r σ2 h => c.go 1 ?_) hend
  · show vp_in (i + 1) L ∧ (vp_in (i + 2) L ∧ jaDe 33 jy_A_foreseen [jcA, .inl ((σ 21).1 96 0 (jaIx (i + 1))), .inl ((σ 21).1 96 0 (jaIx (i + 2)))] σ (jaKi fun r σ1 => P (jf_L_law.drop 455) (jlL i o5 o6) [.inl r] σ1))
    rw [h21]
    exact ⟨hin.1, hin.2.1, h⟩
  · show vp_in (i + 1) L ∧ (vp_in (i + 2) L ∧ jaDe 33 jy_M_foreseen [jaMo, .inl ((σ1 21).1 96 0 (jaIx (i + 1))), .inl ((σ1 21).1 96 0 (jaIx (i + 2)))] σ1 (jaKi fun r2 σ2 => P (jf_L_law.drop 467) (jlL i o5 o6) [.inl r2, .inl r] σ2))
    rw [h21]
    exact ⟨hin.1, hin.2.1, h⟩
  · exact ⟨fun _ => h, fun z => absurd rfl z⟩
set_option maxRecDepth 20000 in
theorem jl_asks {L : Nat} {S : jaS} {P : jaX} (c : jlC L S P) {i : Int32} {o5 o6 : Option jaV} {σ : jaT} (hI : jI σ) (hin : vp_in (i + 1) L ∧ vp_in (i + 2) L ∧ vp_in (i + 3) L ∧ vp_in (i + 4) L ∧ vp_in (i + 5) L)
    (hend : ∀ σ2, jI σ2 → P (jaAt jf_L_law jp_L_law 46) (jlL i o5 o6) [] σ2) : P (jaAt jf_L_law jp_L_law 24) (jlL i o5 o6) [] σ := by
  refine jl_face c (as := [.inl (S.1 96 0 (jaIx (i + 1))), .inl (S.1 96 0 (jaIx (i + 2))), .inl (S.1 96 0 (jaIx (i + 3)))]) jf_asks (d0 := 471) (d1 := 488) (d2 := 505) hI (fun h21 h => c.go 17 ?_) (fun r σ1 h21 h => c.go 17 ?_) (fun r σ2 h => c.go 1 ?_) hend
  · show vp_in (i + 1) L ∧ (vp_in (i + 2) L ∧ (vp_in (i + 3) L ∧ jaDe 33 jy_A_asks [jcA, .inl ((σ 21).1 96 0 (jaIx (i + 1))), .inl ((σ 21).1 96 0 (jaIx (i + 2))), .inl ((σ 21).1 96 0 (jaIx (i + 3)))] σ (jaKi fun r σ1 => P (jf_L_law.drop 488) (jlL i o5 o6) [.inl r] σ1)))
    rw [h21]
    exact ⟨hin.1, hin.2.1, hin.2.2.1, h⟩
  · show vp_in (i + 1) L ∧ (vp_in (i + 2) L ∧ (vp_in (i + 3) L ∧ jaDe 33 jy_M_asks [jaMo, .inl ((σ1 21).1 96 0 (jaIx (i + 1))), .inl ((σ1 21).1 96 0 (jaIx (i + 2))), .inl ((σ1 21).1 96 0 (jaIx (i + 3)))] σ1 (jaKi fun r2 σ2 => P (jf_L_law.drop 505) (jlL i o5 o6) [.inl r2, .inl r] σ2)))
    rw [h21]
    exact ⟨hin.1, hin.2.1, hin.2.2.1, h⟩
  · exact ⟨fun _ => h, fun z => absurd rfl z⟩
set_option maxRecDepth 20000 in
theorem jl_ready {L : Nat} {S : jaS} {P : jaX} (c : jlC L S P) {i : Int32} {o5 o6 : Option jaV} {σ : jaT} (hI : jI σ) (hin : vp_in (i + 1) L ∧ vp_in (i + 2) L ∧ vp_in (i + 3) L ∧ vp_in (i + 4) L ∧ vp_in (i + 5) L)
    (hend : ∀ σ2, jI σ2 → P (jaAt jf_L_law jp_L_law 46) (jlL i o5 o6) [] σ2) : P (jaAt jf_L_law jp_L_law 25) (jlL i o5 o6) [] σ := by
  refine jl_face c (as := [.inl (S.1 96 0 (jaIx (i + 1))), .inl (S.1 96 0 (jaIx (i + 2)))]) jf_ready (d0 := 509) (d1 := 521) (d2 := 533) hI (fun h21 h => c.go 12 ?_) (fun r σ1 h21 h => c.go 12 ?_) (fun r σ2 h => c.go 1 ?_) hend
  · show vp_in (i + 1) L ∧ (vp_in (i + 2) L ∧ jaDe 33 jy_A_ready [jcA, .inl ((σ 21).1 96 0 (jaIx (i + 1))), .inl ((σ 21).1 96 0 (jaIx (i + 2)))] σ (jaKi fun r σ1 => P (jf_L_law.drop 521) (jlL i o5 o6) [.inl r] σ1))
    rw [h21]
    exact ⟨hin.1, hin.2.1, h⟩
  · show vp_in (i + 1) L ∧ (vp_in (i + 2) L ∧ jaDe 33 jy_M_ready [jaMo, .inl ((σ1 21).1 96 0 (jaIx (i + 1))), .inl ((σ1 21).1 96 0 (jaIx (i + 2)))] σ1 (jaKi fun r2 σ2 => P (jf_L_law.drop 533) (jlL i o5 o6) [.inl r2, .inl r] σ2))
    rw [h21]
    exact ⟨hin.1, hin.2.1, h⟩
  · exact ⟨fun _ => h, fun z => absurd rfl z⟩
set_option maxRecDepth 20000 in
theorem jl_waits {L : Nat} {S : jaS} {P : jaX} (c : jlC L S P) {i : Int32} {o5 o6 : Option jaV} {σ : jaT} (hI : jI σ) (hin : vp_in (i + 1) L ∧ vp_in (i + 2) L ∧ vp_in (i + 3) L ∧ vp_in (i + 4) L ∧ vp_in (i + 5) L)
    (hend : ∀ σ2, jI σ2 → P (jaAt jf_L_law jp_L_law 46) (jlL i o5 o6) [] σ2) : P (jaAt jf_L_law jp_L_law 26) (jlL i o5 o6) [] σ := by
  refine jl_face c (as := [.inl (S.1 96 0 (jaIx (i + 1))), .inl (S.1 96 0 (jaIx (i + 2)))]) jf_waits (d0 := 537) (d1 := 549) (d2 := 561) hI (fun h21 h => c.go 12 ?_) (fun r σ1 h21 h => c.go 12 ?_) (fun r σ2 h => c.go 1 ?_) hend
  · show vp_in (i + 1) L ∧ (vp_in (i + 2) L ∧ jaDe 33 jy_A_waits [jcA, .inl ((σ 21).1 96 0 (jaIx (i + 1))), .inl ((σ 21).1 96 0 (jaIx (i + 2)))] σ (jaKi fun r σ1 => P (jf_L_law.drop 549) (jlL i o5 o6) [.inl r] σ1))
    rw [h21]
    exact ⟨hin.1, hin.2.1, h⟩
  · show vp_in (i + 1) L ∧ (vp_in (i + 2) L ∧ jaDe 33 jy_M_waits [jaMo, .inl ((σ1 21).1 96 0 (jaIx (i + 1))), .inl ((σ1 21).1 96 0 (jaIx (i + 2)))] σ1 (jaKi fun r2 σ2 => P (jf_L_law.drop 561) (jlL i o5 o6) [.inl r2, .inl r] σ2))
    rw [h21]
    exact ⟨hin.1, hin.2.1, h⟩
  · exact ⟨fun _ => h, fun z => absurd rfl z⟩
set_option maxRecDepth 20000 in
theorem jl_same {L : Nat} {S : jaS} {P : jaX} (c : jlC L S P) {i : Int32} {o5 o6 : Option jaV} {σ : jaT} (hI : jI σ) (hin : vp_in (i + 1) L ∧ vp_in (i + 2) L ∧ vp_in (i + 3) L ∧ vp_in (i + 4) L ∧ vp_in (i + 5) L)
    (hend : ∀ σ2, jI σ2 → P (jaAt jf_L_law jp_L_law 46) (jlL i o5 o6) [] σ2) : P (jaAt jf_L_law jp_L_law 30) (jlL i o5 o6) [] σ := by
  refine jl_face c (as := []) jf_same (d0 := 603) (d1 := 605) (d2 := 607) hI (fun h21 h => c.go 2 ?_) (fun r σ1 h21 h => c.go 2 ?_) (fun r σ2 h => c.go 1 ?_) hend
  · show jaDe 33 jy_A_same [jcA] σ (jaKi fun r σ1 => P (jf_L_law.drop 605) (jlL i o5 o6) [.inl r] σ1)
    skip
    exact h
  · show jaDe 33 jy_M_same [jaMo] σ1 (jaKi fun r2 σ2 => P (jf_L_law.drop 607) (jlL i o5 o6) [.inl r2, .inl r] σ2)
    skip
    exact h
  · exact ⟨fun _ => h, fun z => absurd rfl z⟩
set_option maxRecDepth 20000 in
theorem jl_chain {L : Nat} {S : jaS} {P : jaX} (c : jlC L S P) {i : Int32} {o5 o6 : Option jaV} {σ : jaT} (hI : jI σ) (hin : vp_in (i + 1) L ∧ vp_in (i + 2) L ∧ vp_in (i + 3) L ∧ vp_in (i + 4) L ∧ vp_in (i + 5) L)
    (hend : ∀ σ2, jI σ2 → P (jaAt jf_L_law jp_L_law 46) (jlL i o5 o6) [] σ2) : P (jaAt jf_L_law jp_L_law 31) (jlL i o5 o6) [] σ := by
  refine jl_face c (as := []) jf_chain (d0 := 611) (d1 := 613) (d2 := 615) hI (fun h21 h => c.go 2 ?_) (fun r σ1 h21 h => c.go 2 ?_) (fun r σ2 h => c.go 1 ?_) hend
  · show jaDe 33 jy_A_chain [jcA] σ (jaKi fun r σ1 => P (jf_L_law.drop 613) (jlL i o5 o6) [.inl r] σ1)
    skip
    exact h
  · show jaDe 33 jy_M_chain [jaMo] σ1 (jaKi fun r2 σ2 => P (jf_L_law.drop 615) (jlL i o5 o6) [.inl r2, .inl r] σ2)
    skip
    exact h
  · exact ⟨fun _ => h, fun z => absurd rfl z⟩
set_option maxRecDepth 20000 in
theorem jl_least {L : Nat} {S : jaS} {P : jaX} (c : jlC L S P) {i : Int32} {o5 o6 : Option jaV} {σ : jaT} (hI : jI σ) (hin : vp_in (i + 1) L ∧ vp_in (i + 2) L ∧ vp_in (i + 3) L ∧ vp_in (i + 4) L ∧ vp_in (i + 5) L)
    (hend : ∀ σ2, jI σ2 → P (jaAt jf_L_law jp_L_law 46) (jlL i o5 o6) [] σ2) : P (jaAt jf_L_law jp_L_law 32) (jlL i o5 o6) [] σ := by
  refine jl_face c (as := []) jf_least (d0 := 619) (d1 := 621) (d2 := 623) hI (fun h21 h => c.go 2 ?_) (fun r σ1 h21 h => c.go 2 ?_) (fun r σ2 h => c.go 1 ?_) hend
  · show jaDe 33 jy_A_least [jcA] σ (jaKi fun r σ1 => P (jf_L_law.drop 621) (jlL i o5 o6) [.inl r] σ1)
    skip
    exact h
  · show jaDe 33 jy_M_least [jaMo] σ1 (jaKi fun r2 σ2 => P (jf_L_law.drop 623) (jlL i o5 o6) [.inl r2, .inl r] σ2)
    skip
    exact h
  · exact ⟨fun _ => h, fun z => absurd rfl z⟩
set_option maxRecDepth 20000 in
theorem jl_over {L : Nat} {S : jaS} {P : jaX} (c : jlC L S P) {i : Int32} {o5 o6 : Option jaV} {σ : jaT} (hI : jI σ) (hin : vp_in (i + 1) L ∧ vp_in (i + 2) L ∧ vp_in (i + 3) L ∧ vp_in (i + 4) L ∧ vp_in (i + 5) L)
    (hend : ∀ σ2, jI σ2 → P (jaAt jf_L_law jp_L_law 46) (jlL i o5 o6) [] σ2) : P (jaAt jf_L_law jp_L_law 33) (jlL i o5 o6) [] σ := by
  refine jl_face c (as := []) jf_over (d0 := 627) (d1 := 629) (d2 := 631) hI (fun h21 h => c.go 2 ?_) (fun r σ1 h21 h => c.go 2 ?_) (fun r σ2 h => c.go 1 ?_) hend
  · show jaDe 33 jy_A_over [jcA] σ (jaKi fun r σ1 => P (jf_L_law.drop 629) (jlL i o5 o6) [.inl r] σ1)
    skip
    exact h
  · show jaDe 33 jy_M_over [jaMo] σ1 (jaKi fun r2 σ2 => P (jf_L_law.drop 631) (jlL i o5 o6) [.inl r2, .inl r] σ2)
    skip
    exact h
  · exact ⟨fun _ => h, fun z => absurd rfl z⟩
set_option maxRecDepth 20000 in
theorem jl_so {L : Nat} {S : jaS} {P : jaX} (c : jlC L S P) {i : Int32} {o5 o6 : Option jaV} {σ : jaT} (hI : jI σ) (hin : vp_in (i + 1) L ∧ vp_in (i + 2) L ∧ vp_in (i + 3) L ∧ vp_in (i + 4) L ∧ vp_in (i + 5) L)
    (hend : ∀ σ2, jI σ2 → P (jaAt jf_L_law jp_L_law 46) (jlL i o5 o6) [] σ2) : P (jaAt jf_L_law jp_L_law 34) (jlL i o5 o6) [] σ := by
  refine jl_face c (as := []) jf_so (d0 := 635) (d1 := 637) (d2 := 639) hI (fun h21 h => c.go 2 ?_) (fun r σ1 h21 h => c.go 2 ?_) (fun r σ2 h => c.go 1 ?_) hend
  · show jaDe 33 jy_A_so [jcA] σ (jaKi fun r σ1 => P (jf_L_law.drop 637) (jlL i o5 o6) [.inl r] σ1)
    skip
    exact h
  · show jaDe 33 jy_M_so [jaMo] σ1 (jaKi fun r2 σ2 => P (jf_L_law.drop 639) (jlL i o5 o6) [.inl r2, .inl r] σ2)
    skip
    exact h
  · exact ⟨fun _ => h, fun z => absurd rfl z⟩
set_option maxRecDepth 20000 in
theorem jl_soAt {L : Nat} {S : jaS} {P : jaX} (c : jlC L S P) {i : Int32} {o5 o6 : Option jaV} {σ : jaT} (hI : jI σ) (hin : vp_in (i + 1) L ∧ vp_in (i + 2) L ∧ vp_in (i + 3) L ∧ vp_in (i + 4) L ∧ vp_in (i + 5) L)
    (hend : ∀ σ2, jI σ2 → P (jaAt jf_L_law jp_L_law 46) (jlL i o5 o6) [] σ2) : P (jaAt jf_L_law jp_L_law 35) (jlL i o5 o6) [] σ := by
  refine jl_face c (as := [.inl (S.1 96 0 (jaIx (i + 1)))]) jf_soAt (d0 := 643) (d1 := 650) (d2 := 657) hI (fun h21 h => c.go 7 ?_) (fun r σ1 h21 h => c.go 7 ?_) (fun r σ2 h => c.go 1 ?_) hend
  · show vp_in (i + 1) L ∧ jaDe 33 jy_A_soAt [jcA, .inl ((σ 21).1 96 0 (jaIx (i + 1)))] σ (jaKi fun r σ1 => P (jf_L_law.drop 650) (jlL i o5 o6) [.inl r] σ1)
    rw [h21]
    exact ⟨hin.1, h⟩
  · show vp_in (i + 1) L ∧ jaDe 33 jy_M_soAt [jaMo, .inl ((σ1 21).1 96 0 (jaIx (i + 1)))] σ1 (jaKi fun r2 σ2 => P (jf_L_law.drop 657) (jlL i o5 o6) [.inl r2, .inl r] σ2)
    rw [h21]
    exact ⟨hin.1, h⟩
  · exact ⟨fun _ => h, fun z => absurd rfl z⟩
set_option maxRecDepth 20000 in
theorem jl_ask {L : Nat} {S : jaS} {P : jaX} (c : jlC L S P) {i : Int32} {o5 o6 : Option jaV} {σ : jaT} (hI : jI σ) (hin : vp_in (i + 1) L ∧ vp_in (i + 2) L ∧ vp_in (i + 3) L ∧ vp_in (i + 4) L ∧ vp_in (i + 5) L)
    (hend : ∀ σ2, jI σ2 → P (jaAt jf_L_law jp_L_law 46) (jlL i o5 o6) [] σ2) : P (jaAt jf_L_law jp_L_law 36) (jlL i o5 o6) [] σ := by
  refine jl_face c (as := []) jf_ask (d0 := 661) (d1 := 663) (d2 := 665) hI (fun h21 h => c.go 2 ?_) (fun r σ1 h21 h => c.go 2 ?_) (fun r σ2 h => c.go 1 ?_) hend
  · show jaDe 33 jy_A_ask [jcA] σ (jaKi fun r σ1 => P (jf_L_law.drop 663) (jlL i o5 o6) [.inl r] σ1)
    skip
    exact h
  · show jaDe 33 jy_M_ask [jaMo] σ1 (jaKi fun r2 σ2 => P (jf_L_law.drop 665) (jlL i o5 o6) [.inl r2, .inl r] σ2)
    skip
    exact h
  · exact ⟨fun _ => h, fun z => absurd rfl z⟩
set_option maxRecDepth 20000 in
theorem jl_drawn {L : Nat} {S : jaS} {P : jaX} (c : jlC L S P) {i : Int32} {o5 o6 : Option jaV} {σ : jaT} (hI : jI σ) (hin : vp_in (i + 1) L ∧ vp_in (i + 2) L ∧ vp_in (i + 3) L ∧ vp_in (i + 4) L ∧ vp_in (i + 5) L)
    (hend : ∀ σ2, jI σ2 → P (jaAt jf_L_law jp_L_law 46) (jlL i o5 o6) [] σ2) : P (jaAt jf_L_law jp_L_law 37) (jlL i o5 o6) [] σ := by
  refine jl_face c (as := [.inl (S.1 96 0 (jaIx (i + 1))), .inl (S.1 96 0 (jaIx (i + 2)))]) jf_drawn (d0 := 669) (d1 := 681) (d2 := 693) hI (fun h21 h => c.go 12 ?_) (fun r σ1 h21 h => c.go 12 ?_) (fun r σ2 h => c.go 1 ?_) hend
  · show vp_in (i + 1) L ∧ (vp_in (i + 2) L ∧ jaDe 33 jy_A_drawn [jcA, .inl ((σ 21).1 96 0 (jaIx (i + 1))), .inl ((σ 21).1 96 0 (jaIx (i + 2)))] σ (jaKi fun r σ1 => P (jf_L_law.drop 681) (jlL i o5 o6) [.inl r] σ1))
    rw [h21]
    exact ⟨hin.1, hin.2.1, h⟩
  · show vp_in (i + 1) L ∧ (vp_in (i + 2) L ∧ jaDe 33 jy_M_drawn [jaMo, .inl ((σ1 21).1 96 0 (jaIx (i + 1))), .inl ((σ1 21).1 96 0 (jaIx (i + 2)))] σ1 (jaKi fun r2 σ2 => P (jf_L_law.drop 693) (jlL i o5 o6) [.inl r2, .inl r] σ2))
    rw [h21]
    exact ⟨hin.1, hin.2.1, h⟩
  · exact ⟨fun _ => h, fun z => absurd rfl z⟩
set_option maxRecDepth 20000 in
theorem jl_odds {L : Nat} {S : jaS} {P : jaX} (c : jlC L S P) {i : Int32} {o5 o6 : Option jaV} {σ : jaT} (hI : jI σ) (hin : vp_in (i + 1) L ∧ vp_in (i + 2) L ∧ vp_in (i + 3) L ∧ vp_in (i + 4) L ∧ vp_in (i + 5) L)
    (hend : ∀ σ2, jI σ2 → P (jaAt jf_L_law jp_L_law 46) (jlL i o5 o6) [] σ2) : P (jaAt jf_L_law jp_L_law 38) (jlL i o5 o6) [] σ := by
  refine jl_face c (as := [.inl (S.1 96 0 (jaIx (i + 1))), .inl (S.1 96 0 (jaIx (i + 2)))]) jf_odds (d0 := 697) (d1 := 709) (d2 := 721) hI (fun h21 h => c.go 12 ?_) (fun r σ1 h21 h => c.go 12 ?_) (fun r σ2 h => c.go 1 ?_) hend
  · show vp_in (i + 1) L ∧ (vp_in (i + 2) L ∧ jaDe 33 jy_A_odds [jcA, .inl ((σ 21).1 96 0 (jaIx (i + 1))), .inl ((σ 21).1 96 0 (jaIx (i + 2)))] σ (jaKi fun r σ1 => P (jf_L_law.drop 709) (jlL i o5 o6) [.inl r] σ1))
    rw [h21]
    exact ⟨hin.1, hin.2.1, h⟩
  · show vp_in (i + 1) L ∧ (vp_in (i + 2) L ∧ jaDe 33 jy_M_odds [jaMo, .inl ((σ1 21).1 96 0 (jaIx (i + 1))), .inl ((σ1 21).1 96 0 (jaIx (i + 2)))] σ1 (jaKi fun r2 σ2 => P (jf_L_law.drop 721) (jlL i o5 o6) [.inl r2, .inl r] σ2))
    rw [h21]
    exact ⟨hin.1, hin.2.1, h⟩
  · exact ⟨fun _ => h, fun z => absurd rfl z⟩
set_option maxRecDepth 20000 in
theorem jl_book {L : Nat} {S : jaS} {P : jaX} (c : jlC L S P) {i : Int32} {o5 o6 : Option jaV} {σ : jaT} (hI : jI σ) (hin : vp_in (i + 1) L ∧ vp_in (i + 2) L ∧ vp_in (i + 3) L ∧ vp_in (i + 4) L ∧ vp_in (i + 5) L)
    (hend : ∀ σ2, jI σ2 → P (jaAt jf_L_law jp_L_law 46) (jlL i o5 o6) [] σ2) : P (jaAt jf_L_law jp_L_law 39) (jlL i o5 o6) [] σ := by
  refine jl_face c (as := [.inl (S.1 96 0 (jaIx (i + 1)))]) jf_book (d0 := 725) (d1 := 732) (d2 := 739) hI (fun h21 h => c.go 7 ?_) (fun r σ1 h21 h => c.go 7 ?_) (fun r σ2 h => c.go 1 ?_) hend
  · show vp_in (i + 1) L ∧ jaDe 33 jy_A_book [jcA, .inl ((σ 21).1 96 0 (jaIx (i + 1)))] σ (jaKi fun r σ1 => P (jf_L_law.drop 732) (jlL i o5 o6) [.inl r] σ1)
    rw [h21]
    exact ⟨hin.1, h⟩
  · show vp_in (i + 1) L ∧ jaDe 33 jy_M_book [jaMo, .inl ((σ1 21).1 96 0 (jaIx (i + 1)))] σ1 (jaKi fun r2 σ2 => P (jf_L_law.drop 739) (jlL i o5 o6) [.inl r2, .inl r] σ2)
    rw [h21]
    exact ⟨hin.1, h⟩
  · exact ⟨fun _ => h, fun z => absurd rfl z⟩
set_option maxRecDepth 20000 in
theorem jl_told {L : Nat} {S : jaS} {P : jaX} (c : jlC L S P) {i : Int32} {o5 o6 : Option jaV} {σ : jaT} (hI : jI σ) (hin : vp_in (i + 1) L ∧ vp_in (i + 2) L ∧ vp_in (i + 3) L ∧ vp_in (i + 4) L ∧ vp_in (i + 5) L)
    (hend : ∀ σ2, jI σ2 → P (jaAt jf_L_law jp_L_law 46) (jlL i o5 o6) [] σ2) : P (jaAt jf_L_law jp_L_law 40) (jlL i o5 o6) [] σ := by
  refine jl_face c (as := [.inl (S.1 96 0 (jaIx (i + 1)))]) jf_told (d0 := 743) (d1 := 750) (d2 := 757) hI (fun h21 h => c.go 7 ?_) (fun r σ1 h21 h => c.go 7 ?_) (fun r σ2 h => c.go 1 ?_) hend
  · show vp_in (i + 1) L ∧ jaDe 33 jy_A_told [jcA, .inl ((σ 21).1 96 0 (jaIx (i + 1)))] σ (jaKi fun r σ1 => P (jf_L_law.drop 750) (jlL i o5 o6) [.inl r] σ1)
    rw [h21]
    exact ⟨hin.1, h⟩
  · show vp_in (i + 1) L ∧ jaDe 33 jy_M_told [jaMo, .inl ((σ1 21).1 96 0 (jaIx (i + 1)))] σ1 (jaKi fun r2 σ2 => P (jf_L_law.drop 757) (jlL i o5 o6) [.inl r2, .inl r] σ2)
    rw [h21]
    exact ⟨hin.1, h⟩
  · exact ⟨fun _ => h, fun z => absurd rfl z⟩
set_option maxRecDepth 20000 in
theorem jl_sentence {L : Nat} {S : jaS} {P : jaX} (c : jlC L S P) {i : Int32} {o5 o6 : Option jaV} {σ : jaT} (hI : jI σ) (hin : vp_in (i + 1) L ∧ vp_in (i + 2) L ∧ vp_in (i + 3) L ∧ vp_in (i + 4) L ∧ vp_in (i + 5) L)
    (hend : ∀ σ2, jI σ2 → P (jaAt jf_L_law jp_L_law 46) (jlL i o5 o6) [] σ2) : P (jaAt jf_L_law jp_L_law 41) (jlL i o5 o6) [] σ := by
  refine jl_face c (as := []) jf_sentence (d0 := 761) (d1 := 763) (d2 := 765) hI (fun h21 h => c.go 2 ?_) (fun r σ1 h21 h => c.go 2 ?_) (fun r σ2 h => c.go 1 ?_) hend
  · show jaDe 33 jy_A_sentence [jcA] σ (jaKi fun r σ1 => P (jf_L_law.drop 763) (jlL i o5 o6) [.inl r] σ1)
    skip
    exact h
  · show jaDe 33 jy_M_sentence [jaMo] σ1 (jaKi fun r2 σ2 => P (jf_L_law.drop 765) (jlL i o5 o6) [.inl r2, .inl r] σ2)
    skip
    exact h
  · exact ⟨fun _ => h, fun z => absurd rfl z⟩
set_option maxRecDepth 20000 in
theorem jl_said {L : Nat} {S : jaS} {P : jaX} (c : jlC L S P) {i : Int32} {o5 o6 : Option jaV} {σ : jaT} (hI : jI σ) (hin : vp_in (i + 1) L ∧ vp_in (i + 2) L ∧ vp_in (i + 3) L ∧ vp_in (i + 4) L ∧ vp_in (i + 5) L)
    (hend : ∀ σ2, jI σ2 → P (jaAt jf_L_law jp_L_law 46) (jlL i o5 o6) [] σ2) : P (jaAt jf_L_law jp_L_law 42) (jlL i o5 o6) [] σ := by
  refine jl_face c (as := [.inl (S.1 96 0 (jaIx (i + 1)))]) jf_said (d0 := 769) (d1 := 776) (d2 := 783) hI (fun h21 h => c.go 7 ?_) (fun r σ1 h21 h => c.go 7 ?_) (fun r σ2 h => c.go 1 ?_) hend
  · show vp_in (i + 1) L ∧ jaDe 33 jy_A_said [jcA, .inl ((σ 21).1 96 0 (jaIx (i + 1)))] σ (jaKi fun r σ1 => P (jf_L_law.drop 776) (jlL i o5 o6) [.inl r] σ1)
    rw [h21]
    exact ⟨hin.1, h⟩
  · show vp_in (i + 1) L ∧ jaDe 33 jy_M_said [jaMo, .inl ((σ1 21).1 96 0 (jaIx (i + 1)))] σ1 (jaKi fun r2 σ2 => P (jf_L_law.drop 783) (jlL i o5 o6) [.inl r2, .inl r] σ2)
    rw [h21]
    exact ⟨hin.1, h⟩
  · exact ⟨fun _ => h, fun z => absurd rfl z⟩
set_option maxRecDepth 20000 in
theorem jl_image {L : Nat} {S : jaS} {P : jaX} (c : jlC L S P) {i : Int32} {o5 o6 : Option jaV} {σ : jaT} (hI : jI σ) (hin : vp_in (i + 1) L ∧ vp_in (i + 2) L ∧ vp_in (i + 3) L ∧ vp_in (i + 4) L ∧ vp_in (i + 5) L)
    (hend : ∀ σ2, jI σ2 → P (jaAt jf_L_law jp_L_law 46) (jlL i o5 o6) [] σ2) : P (jaAt jf_L_law jp_L_law 43) (jlL i o5 o6) [] σ := by
  refine jl_face c (as := [.inl (S.1 96 0 (jaIx (i + 1)))]) jf_image (d0 := 787) (d1 := 794) (d2 := 801) hI (fun h21 h => c.go 7 ?_) (fun r σ1 h21 h => c.go 7 ?_) (fun r σ2 h => c.go 1 ?_) hend
  · show vp_in (i + 1) L ∧ jaDe 33 jy_A_image [jcA, .inl ((σ 21).1 96 0 (jaIx (i + 1)))] σ (jaKi fun r σ1 => P (jf_L_law.drop 794) (jlL i o5 o6) [.inl r] σ1)
    rw [h21]
    exact ⟨hin.1, h⟩
  · show vp_in (i + 1) L ∧ jaDe 33 jy_M_image [jaMo, .inl ((σ1 21).1 96 0 (jaIx (i + 1)))] σ1 (jaKi fun r2 σ2 => P (jf_L_law.drop 801) (jlL i o5 o6) [.inl r2, .inl r] σ2)
    rw [h21]
    exact ⟨hin.1, h⟩
  · exact ⟨fun _ => h, fun z => absurd rfl z⟩
set_option maxRecDepth 20000 in
theorem jl_restore {L : Nat} {S : jaS} {P : jaX} (c : jlC L S P) {i : Int32} {o5 o6 : Option jaV} {σ : jaT} (hI : jI σ) (hin : vp_in (i + 1) L ∧ vp_in (i + 2) L ∧ vp_in (i + 3) L ∧ vp_in (i + 4) L ∧ vp_in (i + 5) L)
    (hend : ∀ σ2, jI σ2 → P (jaAt jf_L_law jp_L_law 46) (jlL i o5 o6) [] σ2) : P (jaAt jf_L_law jp_L_law 44) (jlL i o5 o6) [] σ := by
  refine jl_face c (as := [.inl (S.1 96 0 (jaIx (i + 1)))]) jf_restore (d0 := 805) (d1 := 812) (d2 := 819) hI (fun h21 h => c.go 7 ?_) (fun r σ1 h21 h => c.go 7 ?_) (fun r σ2 h => c.go 1 ?_) hend
  · show vp_in (i + 1) L ∧ jaDe 33 jy_A_restore [jcA, .inl ((σ 21).1 96 0 (jaIx (i + 1)))] σ (jaKi fun r σ1 => P (jf_L_law.drop 812) (jlL i o5 o6) [.inl r] σ1)
    rw [h21]
    exact ⟨hin.1, h⟩
  · show vp_in (i + 1) L ∧ jaDe 33 jy_M_restore [jaMo, .inl ((σ1 21).1 96 0 (jaIx (i + 1)))] σ1 (jaKi fun r2 σ2 => P (jf_L_law.drop 819) (jlL i o5 o6) [.inl r2, .inl r] σ2)
    rw [h21]
    exact ⟨hin.1, h⟩
  · exact ⟨fun _ => h, fun z => absurd rfl z⟩
set_option maxRecDepth 20000 in
theorem jl_count {L : Nat} {S : jaS} {P : jaX} (c : jlC L S P) {i : Int32} {o5 o6 : Option jaV} {σ : jaT} (hI : jI σ) (hin : vp_in (i + 1) L ∧ vp_in (i + 2) L ∧ vp_in (i + 3) L ∧ vp_in (i + 4) L ∧ vp_in (i + 5) L)
    (hend : ∀ σ2, jI σ2 → P (jaAt jf_L_law jp_L_law 46) (jlL i o5 o6) [] σ2) : P (jaAt jf_L_law jp_L_law 45) (jlL i o5 o6) [] σ := by
  refine jl_face c (as := [.inl (S.1 96 0 (jaIx (i + 1)))]) jf_count (d0 := 823) (d1 := 830) (d2 := 837) hI (fun h21 h => c.go 7 ?_) (fun r σ1 h21 h => c.go 7 ?_) (fun r σ2 h => c.go 1 ?_) hend
  · show vp_in (i + 1) L ∧ jaDe 33 jy_A_count [jcA, .inl ((σ 21).1 96 0 (jaIx (i + 1)))] σ (jaKi fun r σ1 => P (jf_L_law.drop 830) (jlL i o5 o6) [.inl r] σ1)
    rw [h21]
    exact ⟨hin.1, h⟩
  · show vp_in (i + 1) L ∧ jaDe 33 jy_M_count [jaMo, .inl ((σ1 21).1 96 0 (jaIx (i + 1)))] σ1 (jaKi fun r2 σ2 => P (jf_L_law.drop 837) (jlL i o5 o6) [.inl r2, .inl r] σ2)
    rw [h21]
    exact ⟨hin.1, h⟩
  · exact ⟨fun _ => h, fun z => absurd rfl z⟩
end
