section
/-! the law's loop in the machine -/
def jaCkN (own : Nat) (cc : ByteArray) (nL rt : Nat) (f : List jaI) (ps : List Nat) : Nat → List jaI → Bool
  | 0, _ => true
  | _ + 1, [] => true
  | n + 1, (pc, i, a, l) :: is => jaCk1 own cc nL rt f ps pc i a l is && jaCkN own cc nL rt f ps n is
theorem jaCkN_app {own : Nat} {cc : ByteArray} {nL rt : Nat} {f : List jaI} {ps : List Nat} : ∀ (n : Nat) (is : List jaI), jaCkN own cc nL rt f ps n is = true → jaCk own cc nL rt f ps (is.drop n) = true → jaCk own cc nL rt f ps is = true
  | 0, is, _, h => by simpa using h
  | n + 1, [], _, _ => rfl
  | n + 1, (pc, i, a, l) :: is, h, h' => by
    rw [jaCkN, Bool.and_eq_true] at h
    rw [List.drop_succ_cons] at h'
    rw [jaCk, Bool.and_eq_true]
    exact ⟨h.1, jaCkN_app n is h.2 h'⟩
theorem jaCkN_next {k : Nat} (h : jaCkN 12 code 7 3 jf_L_law jp_L_law 80 (jf_L_law.drop k) = true) (h' : jaCk 12 code 7 3 jf_L_law jp_L_law (jf_L_law.drop (k + 80)) = true) : jaCk 12 code 7 3 jf_L_law jp_L_law (jf_L_law.drop k) = true := jaCkN_app 80 _ h (by rw [List.drop_drop]; exact h')
theorem jlCk_0 : jaCkN 12 code 7 3 jf_L_law jp_L_law 80 (jf_L_law.drop 0) = true := by decide +kernel
theorem jlCk_1 : jaCkN 12 code 7 3 jf_L_law jp_L_law 80 (jf_L_law.drop 80) = true := by decide +kernel
theorem jlCk_2 : jaCkN 12 code 7 3 jf_L_law jp_L_law 80 (jf_L_law.drop 160) = true := by decide +kernel
theorem jlCk_3 : jaCkN 12 code 7 3 jf_L_law jp_L_law 80 (jf_L_law.drop 240) = true := by decide +kernel
theorem jlCk_4 : jaCkN 12 code 7 3 jf_L_law jp_L_law 80 (jf_L_law.drop 320) = true := by decide +kernel
theorem jlCk_5 : jaCkN 12 code 7 3 jf_L_law jp_L_law 80 (jf_L_law.drop 400) = true := by decide +kernel
theorem jlCk_6 : jaCkN 12 code 7 3 jf_L_law jp_L_law 80 (jf_L_law.drop 480) = true := by decide +kernel
theorem jlCk_7 : jaCkN 12 code 7 3 jf_L_law jp_L_law 80 (jf_L_law.drop 560) = true := by decide +kernel
theorem jlCk_8 : jaCkN 12 code 7 3 jf_L_law jp_L_law 80 (jf_L_law.drop 640) = true := by decide +kernel
theorem jlCk_9 : jaCkN 12 code 7 3 jf_L_law jp_L_law 80 (jf_L_law.drop 720) = true := by decide +kernel
theorem jlCk_10 : jaCkN 12 code 7 3 jf_L_law jp_L_law 80 (jf_L_law.drop 800) = true := by decide +kernel
theorem jlCk_e : jaCk 12 code 7 3 jf_L_law jp_L_law (jf_L_law.drop 880) = true := by decide +kernel
end
