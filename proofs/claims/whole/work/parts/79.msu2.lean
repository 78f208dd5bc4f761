section
/-! the reference: submit -/
noncomputable def jvSb (x : jvX) (P : jvA) : jvX := (jvComeS (jaPt x.1 32 (x.1 32 + nI 1)), jvCp x.2.1 (133 * jz x.1 32) P 0 133, jvComeE (jaPt x.1 32 (x.1 32 + nI 1)) (jvCp x.2.1 (133 * jz x.1 32) P 0 133) x.2.2 (jz x.1 32))
theorem jvSb_W {x : jvX} {P : jvA} (h : jW3 x) (h24 : jz x.1 32 < 24) (hn : jWn (jz x.1 1) (jvCp x.2.1 (133 * jz x.1 32) P 0 133) (jz x.1 32)) : jW3 (jvSb x P) ∧ jK3 x (jvSb x P) ∧ jz (jvSb x P).1 31 = jz x.1 31 := by
  obtain ⟨s, d, e⟩ := x
  have h : jW s d e := h
  have h24 : jz s 32 < 24 := h24
  have hC := h.o.came.2
  have hP := h.o.pool
  have hM := h.o.many
  obtain ⟨w1, w2⟩ := jvNew_W (d := jvCp d (133 * jz s 32) P 0 133) (jW_d h (fun j hj => jvCp_out (Or.inl hj))) h24 hn
  have z32 : jz (jvSb (s, d, e) P).1 32 = jz s 32 + 1 := by
    show jaIx (jvComeS (jaPt s 32 (s 32 + nI 1)) 32) = _
    rw [jvComeS_ne (by decide) (by decide) (by rw [jz_c (jaPt_ne (by decide))]; omega), jaPt_eq, hM.1, nI_add, jaIx_nI (by omega)]
  have z33 : jz (jvSb (s, d, e) P).1 33 = jz s 33 + 1 := by
    show jaIx (jvComeS (jaPt s 32 (s 32 + nI 1)) 33) = _
    unfold jvComeS
    rw [jaPt_ne (by decide), jaPt_ne (by rw [jz_c (jaPt_ne (by decide))]; omega), jaPt_eq, jaPt_ne (by decide), hP.1, nI_add, jaIx_nI (by omega)]
  have ne : ∀ j, j < 31 ∨ 525 ≤ j ∨ j = 31 → (jvSb (s, d, e) P).1 j = s j := fun j hj => by
    show jvComeS (jaPt s 32 (s 32 + nI 1)) j = s j
    rw [jvComeS_ne (by omega) (by omega) (by rw [jz_c (jaPt_ne (by decide))]; omega), jaPt_ne (by omega)]
  refine ⟨w1, ⟨fun j hj => ne j (by omega), fun j hj => jvCp_out (Or.inl hj), fun j hj => ?_, by rw [z32]; exact Nat.le_succ _, by rw [z33]; exact Nat.le_succ _⟩, jz_c (ne 31 (by omega))⟩
  exact jvComeE_old (by rw [jz_c (jaPt_ne (by decide))]; exact hj)
/-- the row that is stored -/
def jsP (u : jsS) (x : Int32) (n : Nat) : jvA := jaPt (jaPt (jaPt u.1 0 x) 1 (nI n)) 2 (nI u.2)
theorem jsP_n {u : jsS} {x : Int32} {n j : Nat} (h : 3 ≤ j) : jsP u x n j = u.1 j := by
  unfold jsP
  rw [jaPt_ne (by omega), jaPt_ne (by omega), jaPt_ne (by omega)]
theorem jsP_W {X : jtX} (hX : ∀ q, X.1 q < 256) {nm : Nat → Nat} {K n m q : Nat} {u : jsS} {P d : jvA} (hK : K ≤ 10) (h : jsAll X nm K 7 0 (P, 0) 0 = .inr (u, n)) (hq : q < 3) : jWn K (jvCp d (133 * m) (jsP u (nI q) n) 0 133) m := by
  obtain ⟨a1, a2, a3, a4, a5⟩ := jsAll_r hX hK 7 0 (P, 0) 0 rfl h ⟨Nat.zero_le _, fun j hj => absurd (show j < 0 from hj) (by omega)⟩ (fun x hx => absurd hx (by omega))
  have hc : ∀ j, j < 133 → jvCp d (133 * m) (jsP u (nI q) n) 0 133 (133 * m + j) = jsP u (nI q) n j := fun j hj => by rw [jvCp_in hj, Nat.zero_add]
  have c0 := hc 0 (by decide)
  rw [Nat.add_zero] at c0
  have p0 : jsP u (nI q) n 0 = nI q := by
    unfold jsP
    rw [jaPt_ne (by decide), jaPt_ne (by decide), jaPt_eq]
  have p1 : jsP u (nI q) n 1 = nI n := by
    unfold jsP
    rw [jaPt_ne (by decide), jaPt_eq]
  have p2 : jsP u (nI q) n 2 = nI u.2 := jaPt_eq
  have u4 := a4.1
  generalize jvCp d (133 * m) (jsP u (nI q) n) 0 133 = d' at *
  have z2 : jz d' (133 * m + 2) = u.2 := by rw [jz, hc 2 (by decide), p2, jaIx_nI (by omega)]
  have z1 : jz d' (133 * m + 1) = n := by rw [jz, hc 1 (by decide), p1, jaIx_nI (by omega)]
  have z0 : jz d' (133 * m) = q := by rw [jz, c0, p0, jaIx_nI (by omega)]
  refine ⟨a3, ?_, ?_, ?_, fun j hj => ?_, fun i hi => ?_⟩
  · rw [z0, c0, p0]; exact ⟨rfl, hq⟩
  · rw [z1, hc 1 (by decide), p1]; exact ⟨rfl, a2⟩
  · rw [z2, hc 2 (by decide), p2]; exact ⟨rfl, u4⟩
  · rw [z2] at hj
    have e1 := hc (3 + j) (by omega)
    rw [← Nat.add_assoc, jsP_n (by omega)] at e1
    unfold jz
    rw [e1]
    exact a4.2 j hj
  · rw [z1] at hi
    rw [z2]
    refine jWt_m (fun j hj => ?_) (a5 i hi)
    have e1 := hc (7 + 21 * i + j) (by omega)
    rw [jsP_n (by omega)] at e1
    rw [show 133 * m + 7 + 21 * i + j = 133 * m + (7 + 21 * i + j) by omega]
    exact e1
end
