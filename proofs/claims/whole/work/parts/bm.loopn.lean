section
/-! the law's loop -/
theorem jaSw_all {x : Int32} {J : Nat → Prop} : ∀ (l : List Nat) (v : Int), (∀ t, t ∈ l → J t) → jaSw x J v l
  | [], _, _ => trivial
  | t :: l, v, h => ⟨fun _ => h t List.mem_cons_self, jaSw_all l (v + 1) fun u hu => h u (List.mem_cons_of_mem _ hu)⟩
theorem jl_head {L k : Nat} (hL : L < 1000000) (hk : k < 1000000) (h : ¬ (Int32.ofNat L - 6 < nI k)) : k + 6 ≤ L := by
  by_cases h6 : 6 ≤ L
  · have e : (Int32.ofNat L - 6 : Int32) = nI (L - 6) := by
      rw [← nI_sub h6]
      rfl
    rw [e, nI_lt' (by omega) (by omega)] at h
    omega
  · exfalso
    apply h
    have h0 : (0 : Int32) ≤ nI k := by
      rw [nI_z2 (by omega)]
      trivial
    have : L = 0 ∨ L = 1 ∨ L = 2 ∨ L = 3 ∨ L = 4 ∨ L = 5 := by omega
    rcases this with rfl | rfl | rfl | rfl | rfl | rfl
    all_goals exact Int32.lt_of_lt_of_le (by decide) h0
def jlW2 (J : Nat) (P : Nat → jaX) (G : jaT → Int32 → Int32 → Int32 → Prop) (d : Nat) : Prop :=
  ∀ j, j < J → ∀ (i : Int32) (o5 o6 : Option jaV) (x1 x2 : Int32) (τ : jaT), jI τ → (∀ r u, jxW τ (G τ x1 x2) (some (.inl r)) u → P (j + 1) (jf_L_law.drop (d + 1)) (jlL i o5 o6) [.inl r] u) → P j (jf_L_law.drop d) (jlL i o5 o6) [jcO, .inl x2, .inl x1, jcA] τ
def jlW1 (J : Nat) (P : Nat → jaX) (G : jaT → Int32 → Int32 → Prop) (d : Nat) : Prop :=
  ∀ j, j < J → ∀ (i : Int32) (o5 o6 : Option jaV) (x1 : Int32) (τ : jaT), jI τ → (∀ r u, jxW τ (G τ x1) (some (.inl r)) u → P (j + 1) (jf_L_law.drop (d + 1)) (jlL i o5 o6) [.inl r] u) → P j (jf_L_law.drop d) (jlL i o5 o6) [jcO, .inl x1, jcA] τ
set_option maxRecDepth 20000 in
set_option maxHeartbeats 2000000 in
theorem jl_loop {L J : Nat} {S : jaS} {P : Nat → jaX} (hL : L < 900000) (hc : ∀ j, j ≤ J → jlC L S (P j))
    (hV : jlW2 J P (fun τ x1 x2 => jgVal ((τ 20).1 72 0) x1 x2) 247) (hK : jlW2 J P (fun τ x1 x2 => jgKey ((τ 20).1 72 0) x1 x2) 295) (hS : jlW1 J P (fun τ x1 => jgSer ((τ 20).1 72 0) ((τ 20).1 75 0) ((τ 20).1 76 0) x1) 572) :
    ∀ (n k j : Nat) (o5 o6 : Option jaV) (σ : jaT), L ≤ k + 6 * n → k ≤ 900000 → j + n ≤ J → jI σ → P j (jaAt jf_L_law jp_L_law 1) (jlL (nI k) o5 o6) [] σ := by
  intro n
  induction n with
  | zero =>
    intro k j o5 o6 σ hn hk hj hI
    have c := hc j (by omega)
    refine c.go 6 ?_
    show (Int32.ofNat L - 6 < nI k → P j (jaAt jf_L_law jp_L_law 47) (jlL (nI k) o5 o6) [] σ) ∧ (¬ (Int32.ofNat L - 6 < nI k) → P j (jf_L_law.drop 20) (jlL (nI k) o5 o6) [] σ)
    refine ⟨fun _ => c.go 2 ⟨Or.inr rfl, rfl⟩, fun z => ?_⟩
    have := jl_head (by omega) (by omega) z
    omega
  | succ n ih =>
    intro k j o5 o6 σ hn hk hj hI
    have c := hc j (by omega)
    have c1 := hc (j + 1) (by omega)
    refine c.go 6 ?_
    show (Int32.ofNat L - 6 < nI k → P j (jaAt jf_L_law jp_L_law 47) (jlL (nI k) o5 o6) [] σ) ∧ (¬ (Int32.ofNat L - 6 < nI k) → P j (jf_L_law.drop 20) (jlL (nI k) o5 o6) [] σ)
    refine ⟨fun _ => c.go 2 ⟨Or.inr rfl, rfl⟩, fun z => ?_⟩
    have hkL := jl_head (by omega) (by omega) z
    have hin : vp_in (nI k + 1) L ∧ vp_in (nI k + 2) L ∧ vp_in (nI k + 3) L ∧ vp_in (nI k + 4) L ∧ vp_in (nI k + 5) L := by
      rw [show (1 : Int32) = nI 1 from rfl, show (2 : Int32) = nI 2 from rfl, show (3 : Int32) = nI 3 from rfl, show (4 : Int32) = nI 4 from rfl, show (5 : Int32) = nI 5 from rfl, nI_add, nI_add, nI_add, nI_add, nI_add]
      exact ⟨vp_in_nI (by omega) (by omega), vp_in_nI (by omega) (by omega), vp_in_nI (by omega) (by omega), vp_in_nI (by omega) (by omega), vp_in_nI (by omega) (by omega)⟩
    have step : ∀ (j' : Nat) (o5 o6 : Option jaV) (σ2 : jaT), j' + n ≤ J → jI σ2 → P j' (jaAt jf_L_law jp_L_law 46) (jlL (nI k) o5 o6) [] σ2 := by
      intro j' o5 o6 σ2 hj' hI2
      refine (hc j' (by omega)).go 2 ?_
      show P j' (jaAt jf_L_law jp_L_law 1) (jlL (nI k + nI 6) o5 o6) [] σ2
      rw [nI_add]
      exact ih (k + 6) j' o5 o6 σ2 (by omega) (by omega) hj' hI2
    have hend : ∀ σ2, jI σ2 → P j (jaAt jf_L_law jp_L_law 46) (jlL (nI k) o5 o6) [] σ2 := fun σ2 h2 => step j o5 o6 σ2 (by omega) h2
    have hend1 : ∀ o5 o6 σ2, jI σ2 → P (j + 1) (jaAt jf_L_law jp_L_law 46) (jlL (nI k) o5 o6) [] σ2 := fun o5 o6 σ2 h2 => step (j + 1) o5 o6 σ2 (by omega) h2
    refine c.go 6 ?_
    show vp_in (nI k) L ∧ ((((σ 21).1 96 0 (jaIx (nI k)) &&& 63).toInt < 0 ∨ 37 < ((σ 21).1 96 0 (jaIx (nI k)) &&& 63).toInt → P j (jaAt jf_L_law jp_L_law 46) (jlL (nI k) o5 o6) [] σ) ∧ jaSw ((σ 21).1 96 0 (jaIx (nI k)) &&& 63) (fun t => P j (jaAt jf_L_law jp_L_law t) (jlL (nI k) o5 o6) [] σ) 0 [2, 3, 4, 5, 6, 7, 8, 9, 10, 11, 12, 13, 16, 19, 20, 21, 22, 23, 24, 25, 26, 27, 30, 31, 32, 33, 34, 35, 36, 37, 38, 39, 40, 41, 42, 43, 44, 45])
    refine ⟨vp_in_nI (by omega) (by omega), fun _ => hend σ hI, jaSw_all _ _ fun t ht => ?_⟩
    simp only [List.mem_cons, List.not_mem_nil, or_false] at ht
    rcases ht with rfl | rfl | rfl | rfl | rfl | rfl | rfl | rfl | rfl | rfl | rfl | rfl | rfl | rfl | rfl | rfl | rfl | rfl | rfl | rfl | rfl | rfl | rfl | rfl | rfl | rfl | rfl | rfl | rfl | rfl | rfl | rfl | rfl | rfl | rfl | rfl | rfl | rfl
    · exact jl_feed c hI hin hend
    · exact jl_end c hI hin hend
    · exact jl_world c hI hin hend
    · exact jl_fault c hI hin hend
    · exact jl_submit c hI hin hend
    · exact jl_put c hI hin hend
    · exact jl_check c hI hin hend
    · exact jl_crash c hI hin hend
    · exact jl_ticks c hI hin hend
    · exact jl_undo c hI hin hend
    · exact jl_now c hI hin hend
    · exact jl_value c c1 hI hin (fun x1 x2 τ hτ hq => hV j (by omega) _ _ _ x1 x2 τ hτ hq) hend1
    · exact jl_key c c1 hI hin (fun x1 x2 τ hτ hq => hK j (by omega) _ _ _ x1 x2 τ hτ hq) hend1
    · exact jl_trans c hI hin hend
    · exact jl_arrived c hI hin hend
    · exact jl_entry c hI hin hend
    · exact jl_how c hI hin hend
    · exact jl_foreseen c hI hin hend
    · exact jl_asks c hI hin hend
    · exact jl_ready c hI hin hend
    · exact jl_waits c hI hin hend
    · exact jl_serial c c1 hI hin (fun x1 τ hτ hq => hS j (by omega) _ _ _ x1 τ hτ hq) hend1
    · exact jl_same c hI hin hend
    · exact jl_chain c hI hin hend
    · exact jl_least c hI hin hend
    · exact jl_over c hI hin hend
    · exact jl_so c hI hin hend
    · exact jl_soAt c hI hin hend
    · exact jl_ask c hI hin hend
    · exact jl_drawn c hI hin hend
    · exact jl_odds c hI hin hend
    · exact jl_book c hI hin hend
    · exact jl_told c hI hin hend
    · exact jl_sentence c hI hin hend
    · exact jl_said c hI hin hend
    · exact jl_image c hI hin hend
    · exact jl_restore c hI hin hend
    · exact jl_count c hI hin hend
end
