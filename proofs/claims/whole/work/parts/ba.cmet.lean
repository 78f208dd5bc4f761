section
/-! the constructors' contracts -/
def jkSe : Nat → Option jkZ := fun _ => none
theorem jkOkS_e {l : Launch} {D : va_G} {dA : Nat → ClassId} {R : Room} : jkOkS l D dA R jkSe := fun _ _ h => by cases h
def jki_Rd : List jkC := [(4, 0, jkDef 4)]
def jkg_Rd : Option jkG := jkGo jkSe jki_Rd 3 2823 jkf_Rd jkp_Rd 31 (jkY 0).2.2.1
def jkz_Rd : jkZ := jkZo jki_Rd jkg_Rd
theorem jkk_Rd : jkCk (jkY 0).2.2.2 (jkY 0).2.1 (jkY 0).2.2.1 jkf_Rd jkp_Rd jkf_Rd = true := by decide +kernel
theorem jkd_Rd : jkGd jki_Rd 3 2823 jkg_Rd = true := by decide +kernel
theorem jkm_Rd (l : Launch) (D : va_G) (dA : Nat → ClassId) : jkMet l D dA 0 jkz_Rd := jkMet_of (by decide) jkk_Rd rfl (Or.inl (by decide)) (by decide) jkd_Rd (fun R h1 h2 => jkOkS_e) (by decide +kernel)
def jki_Wo : List jkC := [(9, 0, jkDef 9)]
def jkg_Wo : Option jkG := jkGo jkSe jki_Wo 5 42 jkf_Wo jkp_Wo 64 (jkY 1).2.2.1
def jkz_Wo : jkZ := jkZo jki_Wo jkg_Wo
theorem jkk_Wo : jkCk (jkY 1).2.2.2 (jkY 1).2.1 (jkY 1).2.2.1 jkf_Wo jkp_Wo jkf_Wo = true := by decide +kernel
theorem jkd_Wo : jkGd jki_Wo 5 42 jkg_Wo = true := by decide +kernel
theorem jkm_Wo (l : Launch) (D : va_G) (dA : Nat → ClassId) : jkMet l D dA 1 jkz_Wo := jkMet_of (by decide) jkk_Wo rfl (Or.inl (by decide)) (by decide) jkd_Wo (fun R h1 h2 => jkOkS_e) (by decide +kernel)
def jki_Sc : List jkC := [(5, 0, jkDef 5)]
def jkg_Sc : Option jkG := jkGo jkSe jki_Sc 5 1176 jkf_Sc jkp_Sc 45 (jkY 2).2.2.1
def jkz_Sc : jkZ := jkZo jki_Sc jkg_Sc
theorem jkk_Sc : jkCk (jkY 2).2.2.2 (jkY 2).2.1 (jkY 2).2.2.1 jkf_Sc jkp_Sc jkf_Sc = true := by decide +kernel
theorem jkd_Sc : jkGd jki_Sc 5 1176 jkg_Sc = true := by decide +kernel
theorem jkm_Sc (l : Launch) (D : va_G) (dA : Nat → ClassId) : jkMet l D dA 2 jkz_Sc := jkMet_of (by decide) jkk_Sc rfl (Or.inl (by decide)) (by decide) jkd_Sc (fun R h1 h2 => jkOkS_e) (by decide +kernel)
def jki_En : List jkC := [(3, 0, jkDef 3)]
def jkg_En : Option jkG := jkGo jkSe jki_En 9 720 jkf_En jkp_En 77 (jkY 3).2.2.1
def jkz_En : jkZ := jkZo jki_En jkg_En
theorem jkk_En : jkCk (jkY 3).2.2.2 (jkY 3).2.1 (jkY 3).2.2.1 jkf_En jkp_En jkf_En = true := by decide +kernel
theorem jkd_En : jkGd jki_En 9 720 jkg_En = true := by decide +kernel
theorem jkm_En (l : Launch) (D : va_G) (dA : Nat → ClassId) : jkMet l D dA 3 jkz_En := jkMet_of (by decide) jkk_En rfl (Or.inl (by decide)) (by decide) jkd_En (fun R h1 h2 => jkOkS_e) (by decide +kernel)
def jki_Cp : List jkC := [(2, 0, jkDef 2)]
def jkg_Cp : Option jkG := jkGo jkSe jki_Cp 3 90 jkf_Cp jkp_Cp 28 (jkY 4).2.2.1
def jkz_Cp : jkZ := jkZo jki_Cp jkg_Cp
theorem jkk_Cp : jkCk (jkY 4).2.2.2 (jkY 4).2.1 (jkY 4).2.2.1 jkf_Cp jkp_Cp jkf_Cp = true := by decide +kernel
theorem jkd_Cp : jkGd jki_Cp 3 90 jkg_Cp = true := by decide +kernel
theorem jkm_Cp (l : Launch) (D : va_G) (dA : Nat → ClassId) : jkMet l D dA 4 jkz_Cp := jkMet_of (by decide) jkk_Cp rfl (Or.inl (by decide)) (by decide) jkd_Cp (fun R h1 h2 => jkOkS_e) (by decide +kernel)
def jki_Ck : List jkC := [(1, 0, jkDef 1)]
def jkg_Ck : Option jkG := jkGo jkSe jki_Ck 4 70 jkf_Ck jkp_Ck 36 (jkY 5).2.2.1
def jkz_Ck : jkZ := jkZo jki_Ck jkg_Ck
theorem jkk_Ck : jkCk (jkY 5).2.2.2 (jkY 5).2.1 (jkY 5).2.2.1 jkf_Ck jkp_Ck jkf_Ck = true := by decide +kernel
theorem jkd_Ck : jkGd jki_Ck 4 70 jkg_Ck = true := by decide +kernel
theorem jkm_Ck (l : Launch) (D : va_G) (dA : Nat → ClassId) : jkMet l D dA 5 jkz_Ck := jkMet_of (by decide) jkk_Ck rfl (Or.inl (by decide)) (by decide) jkd_Ck (fun R h1 h2 => jkOkS_e) (by decide +kernel)
def jki_Sn : List jkC := [(7, 0, jkDef 7)]
def jkg_Sn : Option jkG := jkGo jkSe jki_Sn 3 120 jkf_Sn jkp_Sn 28 (jkY 7).2.2.1
def jkz_Sn : jkZ := jkZo jki_Sn jkg_Sn
theorem jkk_Sn : jkCk (jkY 7).2.2.2 (jkY 7).2.1 (jkY 7).2.2.1 jkf_Sn jkp_Sn jkf_Sn = true := by decide +kernel
theorem jkd_Sn : jkGd jki_Sn 3 120 jkg_Sn = true := by decide +kernel
theorem jkm_Sn (l : Launch) (D : va_G) (dA : Nat → ClassId) : jkMet l D dA 7 jkz_Sn := jkMet_of (by decide) jkk_Sn rfl (Or.inl (by decide)) (by decide) jkd_Sn (fun R h1 h2 => jkOkS_e) (by decide +kernel)
def jki_Bo : List jkC := [(0, 0, jkDef 0)]
def jkg_Bo : Option jkG := jkGo jkSe jki_Bo 3 120 jkf_Bo jkp_Bo 28 (jkY 8).2.2.1
def jkz_Bo : jkZ := jkZo jki_Bo jkg_Bo
theorem jkk_Bo : jkCk (jkY 8).2.2.2 (jkY 8).2.1 (jkY 8).2.2.1 jkf_Bo jkp_Bo jkf_Bo = true := by decide +kernel
theorem jkd_Bo : jkGd jki_Bo 3 120 jkg_Bo = true := by decide +kernel
theorem jkm_Bo (l : Launch) (D : va_G) (dA : Nat → ClassId) : jkMet l D dA 8 jkz_Bo := jkMet_of (by decide) jkk_Bo rfl (Or.inl (by decide)) (by decide) jkd_Bo (fun R h1 h2 => jkOkS_e) (by decide +kernel)
def jki_Se : List jkC := [(6, 0, jkDef 6)]
def jkg_Se : Option jkG := jkGo jkSe jki_Se 3 461 jkf_Se jkp_Se 34 (jkY 9).2.2.1
def jkz_Se : jkZ := jkZo jki_Se jkg_Se
theorem jkk_Se : jkCk (jkY 9).2.2.2 (jkY 9).2.1 (jkY 9).2.2.1 jkf_Se jkp_Se jkf_Se = true := by decide +kernel
theorem jkd_Se : jkGd jki_Se 3 461 jkg_Se = true := by decide +kernel
theorem jkm_Se (l : Launch) (D : va_G) (dA : Nat → ClassId) : jkMet l D dA 9 jkz_Se := jkMet_of (by decide) jkk_Se rfl (Or.inl (by decide)) (by decide) jkd_Se (fun R h1 h2 => jkOkS_e) (by decide +kernel)
def jkS6 (y : Nat) : Option jkZ := jaN none [none, some jkz_Wo, some jkz_Sc, some jkz_En, some jkz_Cp, some jkz_Ck] y
theorem jkS6_ok {l : Launch} {D : va_G} {dA : Nat → ClassId} {R : Room} (h1 : 3 ≤ R.frames) (h2 : 64 * 3 ≤ R.locals) : jkOkS l D dA R jkS6 := by
  intro y z h
  match y, h with
  | 0, h => cases h
  | 1, h => cases h; exact ⟨by decide, jkm_Wo l D dA, by show 2 + 1 ≤ R.frames; omega, by show 64 * (2 + 1) ≤ R.locals; omega, fun q => absurd q (by decide)⟩
  | 2, h => cases h; exact ⟨by decide, jkm_Sc l D dA, by show 2 + 1 ≤ R.frames; omega, by show 64 * (2 + 1) ≤ R.locals; omega, fun q => absurd q (by decide)⟩
  | 3, h => cases h; exact ⟨by decide, jkm_En l D dA, by show 2 + 1 ≤ R.frames; omega, by show 64 * (2 + 1) ≤ R.locals; omega, fun q => absurd q (by decide)⟩
  | 4, h => cases h; exact ⟨by decide, jkm_Cp l D dA, by show 2 + 1 ≤ R.frames; omega, by show 64 * (2 + 1) ≤ R.locals; omega, fun q => absurd q (by decide)⟩
  | 5, h => cases h; exact ⟨by decide, jkm_Ck l D dA, by show 2 + 1 ≤ R.frames; omega, by show 64 * (2 + 1) ≤ R.locals; omega, fun q => absurd q (by decide)⟩
  | n + 6, h => cases h
def jki_St : List jkC := [(8, 0, jkDef 8)]
theorem jkk_St : jkCk (jkY 6).2.2.2 (jkY 6).2.1 (jkY 6).2.2.1 jkf_St jkp_St jkf_St = true := by decide +kernel
def jkc_St_0 : List jkC := [(8, 0, [(0, jkAd 1), (1, jkAd 7), (2, jkAd 13), (3, jkAd 23), (4, jkAd 24), (5, .inl 0), (6, jkAd 29), (7, jkAd 30), (8, .inl 0)]), (9, 0, [(0, .inl 0), (1, .inl 0), (2, .inl 1), (3, .inl 5), (4, .inl 2), (5, jkAd 2), (6, jkAd 3), (7, jkAd 4), (8, jkAd 5), (9, jkAd 6)]), (100, 10, []), (100, 10, []), (100, 3, [(0, .inl 1)]), (102, 3, []), (101, 16, []), (5, 0, [(0, .inl 0), (1, jkAd 8), (2, jkAd 9), (3, jkAd 10), (4, jkAd 11), (5, jkAd 12)]), (100, 24, []), (100, 24, []), (100, 24, []), (100, 96, []), (100, 1008, []), (3, 0, [(0, .inl 0), (1, .inl 0), (2, jkAd 14), (3, jkAd 15), (4, jkAd 16), (5, jkAd 17), (6, jkAd 18), (7, jkAd 19), (8, jkAd 20), (9, jkAd 21), (10, jkAd 22)]), (100, 64, []), (100, 64, []), (100, 64, []), (102, 64, []), (102, 64, []), (100, 64, []), (100, 256, []), (100, 40, []), (100, 40, []), (104, 3, [(2, jkAd 39), (1, jkAd 35), (0, jkAd 31)]), (1, 0, [(0, .inl 0), (1, .inl 0), (2, .inl 0), (3, .inl 0), (4, jkAd 25), (5, jkAd 26), (6, .inl 0), (7, jkAd 27), (8, jkAd 28)]), (100, 10, []), (100, 10, []), (100, 10, []), (100, 40, []), (100, 10, []), (100, 10, []), (2, 0, [(0, jkAd 32), (1, jkAd 33), (2, jkAd 34)]), (100, 10, []), (100, 40, []), (100, 40, []), (2, 0, [(0, jkAd 36), (1, jkAd 37), (2, jkAd 38)]), (100, 10, []), (100, 40, []), (100, 40, []), (2, 0, [(0, jkAd 40), (1, jkAd 41), (2, jkAd 42)]), (100, 10, []), (100, 40, []), (100, 40, [])]
theorem jkt_St_0 : jkTo jkS6 1 42 2346 jkf_St jkp_St (jkf_St.drop 0, [some (jkAd 0), none], [], jki_St, 0) (jkf_St.drop 50, [some (jkAd 0), some (.inl 3)], [], jkc_St_0, 2346) := jkTo_of (n := 76) (by decide +kernel)
def jkz_St : jkZ := (jki_St, jkc_St_0, 2346)
theorem jkm_St (l : Launch) (D : va_G) (dA : Nat → ClassId) : jkMet l D dA 6 jkz_St := jkMet_of2 (M := 42) (N := 2346) (by decide) jkk_St rfl (Or.inl (by decide)) (by decide) (jkt_St_0) (by decide +kernel) (fun R h1 h2 => jkS6_ok h1 h2) (by decide +kernel)
def jkS10 (y : Nat) : Option jkZ := jaN none [some jkz_Rd, some jkz_Wo, none, none, none, none, some jkz_St, some jkz_Sn, some jkz_Bo, some jkz_Se] y
theorem jkS10_ok {l : Launch} {D : va_G} {dA : Nat → ClassId} {R : Room} (h1 : 4 ≤ R.frames) (h2 : 64 * 4 ≤ R.locals) : jkOkS l D dA R jkS10 := by
  intro y z h
  match y, h with
  | 0, h =>
    have e : jkz_Rd = z := Option.some.inj h
    rw [← e]
    exact ⟨by decide, jkm_Rd l D dA, by show 2 + 1 ≤ R.frames; omega, by show 64 * (2 + 1) ≤ R.locals; omega, fun q => absurd q (by decide)⟩
  | 1, h =>
    have e : jkz_Wo = z := Option.some.inj h
    rw [← e]
    exact ⟨by decide, jkm_Wo l D dA, by show 2 + 1 ≤ R.frames; omega, by show 64 * (2 + 1) ≤ R.locals; omega, fun q => absurd q (by decide)⟩
  | 2, h => cases h
  | 3, h => cases h
  | 4, h => cases h
  | 5, h => cases h
  | 6, h =>
    have e : jkz_St = z := Option.some.inj h
    rw [← e]
    exact ⟨by decide, jkm_St l D dA, by show 3 + 1 ≤ R.frames; omega, by show 64 * (3 + 1) ≤ R.locals; omega, fun q => absurd q (by decide)⟩
  | 7, h =>
    have e : jkz_Sn = z := Option.some.inj h
    rw [← e]
    exact ⟨by decide, jkm_Sn l D dA, by show 2 + 1 ≤ R.frames; omega, by show 64 * (2 + 1) ≤ R.locals; omega, fun q => absurd q (by decide)⟩
  | 8, h =>
    have e : jkz_Bo = z := Option.some.inj h
    rw [← e]
    exact ⟨by decide, jkm_Bo l D dA, by show 2 + 1 ≤ R.frames; omega, by show 64 * (2 + 1) ≤ R.locals; omega, fun q => absurd q (by decide)⟩
  | 9, h =>
    have e : jkz_Se = z := Option.some.inj h
    rw [← e]
    exact ⟨by decide, jkm_Se l D dA, by show 2 + 1 ≤ R.frames; omega, by show 64 * (2 + 1) ≤ R.locals; omega, fun q => absurd q (by decide)⟩
  | n + 10, h => cases h
end
