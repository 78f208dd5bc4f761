section
/-! of the class's object, of the reference's -/
def jki_A : List jkC := [(10, 0, jkDef 10)]
def jkg_A : Option jkG := jkGo jkS10 jki_A 557 33196 jkf_A jkp_A 205 (jkY 10).2.2.1
def jkz_A : jkZ := jkZo jki_A jkg_A
theorem jkk_A : jkCk (jkY 10).2.2.2 (jkY 10).2.1 (jkY 10).2.2.1 jkf_A jkp_A jkf_A = true := by decide +kernel
theorem jkd_A : jkGd jki_A 557 33196 jkg_A = true := by decide +kernel
theorem jkm_A (l : Launch) (D : va_G) (dA : Nat → ClassId) : jkMet l D dA 10 jkz_A := jkMet_of (by decide) jkk_A rfl (Or.inl (by decide)) (by decide) jkd_A (fun R h1 h2 => jkS10_ok h1 h2) (by decide +kernel)
def jki_clears : List jkC := [(11, 0, [(0, .inl 0), (1, .inr (.inr (201, 1, 0))), (2, .inl 0), (3, .inl 0), (4, .inl 0), (5, .inl 0), (6, .inr (.inr (201, 2, 0))), (7, .inr (.inr (200, 1, 0))), (8, .inr (.inr (201, 4, 0))), (9, .inr (.inr (201, 5, 0))), (10, .inr (.inr (201, 6, 0))), (11, .inr (.inr (201, 7, 0))), (12, .inr (.inr (201, 8, 0))), (13, .inr (.inr (201, 9, 0))), (14, .inl 0), (15, .inl 0), (16, .inl 0), (17, .inl 0), (18, .inl 0), (19, .inl 0), (20, .inr (.inl 0)), (21, .inl 0), (22, .inl 0), (23, .inl 0), (24, .inl 0), (25, .inl 0), (26, .inl 0), (27, .inr (.inr (201, 10, 0))), (28, .inr (.inr (201, 11, 0))), (29, .inl 0), (30, .inr (.inr (201, 12, 0))), (31, .inr (.inr (201, 13, 0))), (32, .inr (.inr (201, 14, 0))), (33, .inl 0), (34, .inr (.inr (201, 15, 0))), (35, .inr (.inr (201, 16, 0))), (36, .inr (.inr (201, 17, 0))), (37, .inl (-1)), (38, .inl 0), (39, .inl 0), (40, .inl 0), (41, .inl 0), (42, .inr (.inr (201, 18, 0))), (43, .inl 0), (44, .inr (.inr (201, 19, 0))), (45, .inl 0), (46, .inl 0), (47, .inl 0), (48, .inl 0), (49, .inl 0), (50, .inr (.inr (201, 20, 0))), (51, .inr (.inr (201, 21, 0))), (52, .inr (.inr (201, 22, 0))), (53, .inr (.inr (201, 23, 0))), (54, .inr (.inr (201, 24, 0))), (55, .inr (.inr (201, 25, 0)))]), (100, 31, [])]
def jkg_clears : Option jkG := jkGo jkSe jki_clears 0 0 jkf_clears jkp_clears 35 (jkY 11).2.2.1
def jkz_clears : jkZ := jkZo jki_clears jkg_clears
theorem jkk_clears : jkCk (jkY 11).2.2.2 (jkY 11).2.1 (jkY 11).2.2.1 jkf_clears jkp_clears jkf_clears = true := by decide +kernel
theorem jkd_clears : jkGd jki_clears 0 0 jkg_clears = true := by decide +kernel
theorem jkm_clears (l : Launch) (D : va_G) (dA : Nat → ClassId) : jkMet l D dA 11 jkz_clears := jkMet_of (by decide) jkk_clears rfl (Or.inr (by decide)) (by decide) jkd_clears (fun R h1 h2 => jkOkS_e) (by decide +kernel)
def jkS12 (y : Nat) : Option jkZ := jaN none [none, none, none, none, none, none, none, none, none, none, none, some jkz_clears] y
theorem jkS12_ok {l : Launch} {D : va_G} {dA : Nat → ClassId} {R : Room} (h1 : 3 ≤ R.frames) (h2 : 64 * 3 ≤ R.locals) : jkOkS l D dA R jkS12 := by
  intro y z h
  match y, h with
  | 0, h => cases h
  | 1, h => cases h
  | 2, h => cases h
  | 3, h => cases h
  | 4, h => cases h
  | 5, h => cases h
  | 6, h => cases h
  | 7, h => cases h
  | 8, h => cases h
  | 9, h => cases h
  | 10, h => cases h
  | 11, h => cases h; exact ⟨by decide, jkm_clears l D dA, by show 2 + 1 ≤ R.frames; omega, by show 64 * (2 + 1) ≤ R.locals; omega, fun _ => ⟨_, _, _, rfl⟩⟩
  | n + 12, h => cases h
def jki_M : List jkC := [(11, 0, jkDef 11)]
def jkg_M : Option jkG := jkGo jkS12 jki_M 25 19847 jkf_M jkp_M 548 (jkY 12).2.2.1
def jkz_M : jkZ := jkZo jki_M jkg_M
theorem jkk_M : jkCk (jkY 12).2.2.2 (jkY 12).2.1 (jkY 12).2.2.1 jkf_M jkp_M jkf_M = true := by decide +kernel
theorem jkd_M : jkGd jki_M 25 19847 jkg_M = true := by decide +kernel
theorem jkm_M (l : Launch) (D : va_G) (dA : Nat → ClassId) : jkMet l D dA 12 jkz_M := jkMet_of (by decide) jkk_M rfl (Or.inl (by decide)) (by decide) jkd_M (fun R h1 h2 => jkS12_ok h1 h2) (by decide +kernel)
def jkS13 (y : Nat) : Option jkZ := jaN none [none, none, none, none, none, none, none, none, none, none, some jkz_A, none, some jkz_M] y
theorem jkS13_ok {l : Launch} {D : va_G} {dA : Nat → ClassId} {R : Room} (h1 : 5 ≤ R.frames) (h2 : 64 * 5 ≤ R.locals) : jkOkS l D dA R jkS13 := by
  intro y z h
  match y, h with
  | 0, h => cases h
  | 1, h => cases h
  | 2, h => cases h
  | 3, h => cases h
  | 4, h => cases h
  | 5, h => cases h
  | 6, h => cases h
  | 7, h => cases h
  | 8, h => cases h
  | 9, h => cases h
  | 10, h => cases h; exact ⟨by decide, jkm_A l D dA, by show 4 + 1 ≤ R.frames; omega, by show 64 * (4 + 1) ≤ R.locals; omega, fun q => absurd q (by decide)⟩
  | 11, h => cases h
  | 12, h => cases h; exact ⟨by decide, jkm_M l D dA, by show 3 + 1 ≤ R.frames; omega, by show 64 * (3 + 1) ≤ R.locals; omega, fun q => absurd q (by decide)⟩
  | n + 13, h => cases h
end
