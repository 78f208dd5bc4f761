section
/-! value, key, serial: the class's, then the law's own, as contracts -/
def jw1_value : List jaI := [(0, .aload_n 3, 0, []), (1, .iconst 0, 0, []), (2, .aload_n 0, 0, []), (3, .iload_n 1, 0, []), (4, .iload_n 2, 0, []), (5, .athrow, 0, [])]
def jw2_value : List jaI := [(8, .i2l, 0, []), (9, .lastore, 0, []), (10, .goto 7, 1, []), (17, .nop, 1, []), (17, .iconst 0, 0, []), (18, .ireturn, 0, [])]
def jw3_value : List jaI := [(15, .iconst 1, 0, []), (16, .ireturn, 0, [])]
theorem jwC_value : jaCk 10 prog_1_method_28_code 3 1 jf_A_value jp_A_value jf_A_value = true := by decide +kernel
theorem jw_A_value {l : Launch} {D : va_G} {dA : Nat → ClassId} {an : jaR → Nat} {sv : Value} (hst : l.stackTraces = false) (hs : sv = .null ∨ ∃ a, sv = .ref a) {x1 x2 : Int32} {σ : jaT} (hI : jI σ) :
    jxMet l D dA an sv ⟨"AgreedInput", "value", "(II)I"⟩ prog_1_method_28_code 3 [jcA, .inl x1, .inl x2] σ (jgVal ((σ 20).1 72 0) x1 x2) := by
  refine jx_met hst hs (px := 16) (f := jf_A_value) (ps := jp_A_value) (by decide +kernel) rfl jwC_value rfl ⟨jaD_ok (by decide +kernel), jaD_ok (by decide +kernel), jaD_ok (by decide +kernel), jaD_ok (by decide +kernel)⟩ rfl ⟨Or.inl (by decide +kernel), trivial, trivial, trivial⟩ ?_
  exact jg_A_value hI (fun v hv => ⟨v, rfl, hv, hI, rfl, rfl⟩) (fun hno => ⟨rfl, rfl, rfl, hno⟩)
theorem jwW_value : ∀ w ∈ wsV "AgreedInputLaw" 7 "AgreedInput" ⟨"AgreedInput", "value", "(II)I"⟩ [.code ⟨"AgreedInput", "value", "(II)I"⟩ prog_1_method_28_code 3 (some .int)], w ∈ lw_tbl ∧ goodWord w = true := by
  intro w hw
  have : ((wsV "AgreedInputLaw" 7 "AgreedInput" ⟨"AgreedInput", "value", "(II)I"⟩ [.code ⟨"AgreedInput", "value", "(II)I"⟩ prog_1_method_28_code 3 (some .int)]).all fun w => decide (w ∈ lw_tbl) && goodWord w) = true := by decide +kernel
  have := List.all_eq_true.mp this w hw
  rw [Bool.and_eq_true] at this
  exact ⟨of_decide_eq_true this.1, this.2⟩
theorem jw_L_value {l : Launch} {D : va_G} {dA : Nat → ClassId} {an : jaR → Nat} {sv : Value} (hst : l.stackTraces = false) (hs : sv = .null ∨ ∃ a, sv = .ref a) {x1 x2 : Int32} {σ : jaT} (hI : jI σ) :
    Met l ⟨"AgreedInputLaw", "value", "(LAgreedInput;II[J)I"⟩ (.codeWith ⟨"AgreedInputLaw", "value", "(LAgreedInput;II[J)I"⟩ method_3_code 5 (some .int) [(0, 10, 13, 13)] :: jaTB) jxRl (va_Pc ([jcA, .inl x1, .inl x2, jcO].map (jaTr an sv)) (jxPre D dA an sv σ)) (jaQc D dA an 1 (σ 21) (jxW σ (jgVal ((σ 20).1 72 0) x1 x2))) 1 6 (jaA0 an) := by
  refine jxl_met hs (as := [.inl x1, .inl x2]) (px := 5) (idx := 7) (f1 := jw1_value) (f2 := jw2_value) (f3 := jw3_value) (ps2 := [0, 4]) (by decide +kernel) rfl (jw_A_value hst hs hI) (by decide +kernel) (by decide +kernel) (by decide +kernel) rfl rfl (jaD_ok (by decide +kernel)) (by decide +kernel) jwW_value ⟨rfl, by show (parseMethodDescriptor "(II)I").map (fun d => d.parameters.length) = some 2; decide +kernel⟩ (by decide) (by simp [jaArg]) ⟨Or.inl (by decide +kernel), trivial, trivial, Or.inl (by decide +kernel), trivial⟩ ?_ ?_ ?_ ?_
  · exact Or.inr ⟨4, jaD_ok (by decide +kernel), rfl, by decide⟩
  · exact jaRun_go (jaCall_self jaAr jaMt 33) [] 6 _ _ _ _ ⟨rfl, rfl, rfl, rfl⟩
  · intro v τ hJ hIτ h20 h22
    refine jaRun_go (jaCall_self jaAr jaMt 33) [] 10 _ _ _ _ ?_
    refine ⟨by rintro (z | z) <;> exact absurd z (by decide), ?_⟩
    show jxW σ _ (some (.inl 0)) (jaU τ 22 (jaUL (τ 22) 97 0 (jaIx 0) v.toInt64))
    rw [show jaIx 0 = 0 from by decide]
    exact Or.inl ⟨rfl, v, τ, hJ, hIτ, h20, h22, rfl⟩
  · intro hno
    exact jaRun_go (jaCall_self jaAr jaMt 33) [] 10 _ _ _ _ (Or.inr ⟨rfl, rfl, hno⟩)
def jw1_key : List jaI := [(0, .aload_n 3, 0, []), (1, .iconst 0, 0, []), (2, .aload_n 0, 0, []), (3, .iload_n 1, 0, []), (4, .iload_n 2, 0, []), (5, .athrow, 0, [])]
def jw2_key : List jaI := [(8, .i2l, 0, []), (9, .lastore, 0, []), (10, .goto 7, 1, []), (17, .nop, 1, []), (17, .iconst 0, 0, []), (18, .ireturn, 0, [])]
def jw3_key : List jaI := [(15, .iconst 1, 0, []), (16, .ireturn, 0, [])]
theorem jwC_key : jaCk 10 prog_1_method_29_code 3 1 jf_A_key jp_A_key jf_A_key = true := by decide +kernel
theorem jw_A_key {l : Launch} {D : va_G} {dA : Nat → ClassId} {an : jaR → Nat} {sv : Value} (hst : l.stackTraces = false) (hs : sv = .null ∨ ∃ a, sv = .ref a) {x1 x2 : Int32} {σ : jaT} (hI : jI σ) :
    jxMet l D dA an sv ⟨"AgreedInput", "key", "(II)I"⟩ prog_1_method_29_code 3 [jcA, .inl x1, .inl x2] σ (jgKey ((σ 20).1 72 0) x1 x2) := by
  refine jx_met hst hs (px := 36) (f := jf_A_key) (ps := jp_A_key) (by decide +kernel) rfl jwC_key rfl ⟨jaD_ok (by decide +kernel), jaD_ok (by decide +kernel), jaD_ok (by decide +kernel), jaD_ok (by decide +kernel)⟩ rfl ⟨Or.inl (by decide +kernel), trivial, trivial, trivial⟩ ?_
  exact jg_A_key hI (fun v hv => ⟨v, rfl, hv, hI, rfl, rfl⟩) (fun hno => ⟨rfl, rfl, rfl, hno⟩)
theorem jwW_key : ∀ w ∈ wsV "AgreedInputLaw" 15 "AgreedInput" ⟨"AgreedInput", "key", "(II)I"⟩ [.code ⟨"AgreedInput", "key", "(II)I"⟩ prog_1_method_29_code 3 (some .int)], w ∈ lw_tbl ∧ goodWord w = true := by
  intro w hw
  have : ((wsV "AgreedInputLaw" 15 "AgreedInput" ⟨"AgreedInput", "key", "(II)I"⟩ [.code ⟨"AgreedInput", "key", "(II)I"⟩ prog_1_method_29_code 3 (some .int)]).all fun w => decide (w ∈ lw_tbl) && goodWord w) = true := by decide +kernel
  have := List.all_eq_true.mp this w hw
  rw [Bool.and_eq_true] at this
  exact ⟨of_decide_eq_true this.1, this.2⟩
theorem jw_L_key {l : Launch} {D : va_G} {dA : Nat → ClassId} {an : jaR → Nat} {sv : Value} (hst : l.stackTraces = false) (hs : sv = .null ∨ ∃ a, sv = .ref a) {x1 x2 : Int32} {σ : jaT} (hI : jI σ) :
    Met l ⟨"AgreedInputLaw", "key", "(LAgreedInput;II[J)I"⟩ (.codeWith ⟨"AgreedInputLaw", "key", "(LAgreedInput;II[J)I"⟩ method_4_code 5 (some .int) [(0, 10, 13, 13)] :: jaTB) jxRl (va_Pc ([jcA, .inl x1, .inl x2, jcO].map (jaTr an sv)) (jxPre D dA an sv σ)) (jaQc D dA an 1 (σ 21) (jxW σ (jgKey ((σ 20).1 72 0) x1 x2))) 1 6 (jaA0 an) := by
  refine jxl_met hs (as := [.inl x1, .inl x2]) (px := 5) (idx := 15) (f1 := jw1_key) (f2 := jw2_key) (f3 := jw3_key) (ps2 := [0, 4]) (by decide +kernel) rfl (jw_A_key hst hs hI) (by decide +kernel) (by decide +kernel) (by decide +kernel) rfl rfl (jaD_ok (by decide +kernel)) (by decide +kernel) jwW_key ⟨rfl, by show (parseMethodDescriptor "(II)I").map (fun d => d.parameters.length) = some 2; decide +kernel⟩ (by decide) (by simp [jaArg]) ⟨Or.inl (by decide +kernel), trivial, trivial, Or.inl (by decide +kernel), trivial⟩ ?_ ?_ ?_ ?_
  · exact Or.inr ⟨4, jaD_ok (by decide +kernel), rfl, by decide⟩
  · exact jaRun_go (jaCall_self jaAr jaMt 33) [] 6 _ _ _ _ ⟨rfl, rfl, rfl, rfl⟩
  · intro v τ hJ hIτ h20 h22
    refine jaRun_go (jaCall_self jaAr jaMt 33) [] 10 _ _ _ _ ?_
    refine ⟨by rintro (z | z) <;> exact absurd z (by decide), ?_⟩
    show jxW σ _ (some (.inl 0)) (jaU τ 22 (jaUL (τ 22) 97 0 (jaIx 0) v.toInt64))
    rw [show jaIx 0 = 0 from by decide]
    exact Or.inl ⟨rfl, v, τ, hJ, hIτ, h20, h22, rfl⟩
  · intro hno
    exact jaRun_go (jaCall_self jaAr jaMt 33) [] 10 _ _ _ _ (Or.inr ⟨rfl, rfl, hno⟩)
def jw1_serial : List jaI := [(0, .aload_n 2, 0, []), (1, .iconst 0, 0, []), (2, .aload_n 0, 0, []), (3, .iload_n 1, 0, []), (4, .athrow, 0, [])]
def jw2_serial : List jaI := [(7, .i2l, 0, []), (8, .lastore, 0, []), (9, .goto 6, 1, []), (15, .nop, 1, []), (15, .iconst 0, 0, []), (16, .ireturn, 0, [])]
def jw3_serial : List jaI := [(13, .iconst 1, 0, []), (14, .ireturn, 0, [])]
theorem jwC_serial : jaCk 10 prog_1_method_38_code 2 1 jf_A_serial jp_A_serial jf_A_serial = true := by decide +kernel
theorem jw_A_serial {l : Launch} {D : va_G} {dA : Nat → ClassId} {an : jaR → Nat} {sv : Value} (hst : l.stackTraces = false) (hs : sv = .null ∨ ∃ a, sv = .ref a) {x1 : Int32} {σ : jaT} (hI : jI σ) :
    jxMet l D dA an sv ⟨"AgreedInput", "serial", "(I)I"⟩ prog_1_method_38_code 2 [jcA, .inl x1] σ (jgSer ((σ 20).1 72 0) ((σ 20).1 75 0) ((σ 20).1 76 0) x1) := by
  refine jx_met hst hs (px := 8) (f := jf_A_serial) (ps := jp_A_serial) (by decide +kernel) rfl jwC_serial rfl ⟨jaD_ok (by decide +kernel), jaD_ok (by decide +kernel), jaD_ok (by decide +kernel), jaD_ok (by decide +kernel)⟩ rfl ⟨Or.inl (by decide +kernel), trivial, trivial⟩ ?_
  exact jg_A_serial hI (fun v S' hv hIS => ⟨v, rfl, hv, hIS, jaU_ne (by decide), jaU_ne (by decide)⟩) (fun hno => ⟨rfl, rfl, rfl, hno⟩)
theorem jwW_serial : ∀ w ∈ wsV "AgreedInputLaw" 18 "AgreedInput" ⟨"AgreedInput", "serial", "(I)I"⟩ [.code ⟨"AgreedInput", "serial", "(I)I"⟩ prog_1_method_38_code 2 (some .int)], w ∈ lw_tbl ∧ goodWord w = true := by
  intro w hw
  have : ((wsV "AgreedInputLaw" 18 "AgreedInput" ⟨"AgreedInput", "serial", "(I)I"⟩ [.code ⟨"AgreedInput", "serial", "(I)I"⟩ prog_1_method_38_code 2 (some .int)]).all fun w => decide (w ∈ lw_tbl) && goodWord w) = true := by decide +kernel
  have := List.all_eq_true.mp this w hw
  rw [Bool.and_eq_true] at this
  exact ⟨of_decide_eq_true this.1, this.2⟩
theorem jw_L_serial {l : Launch} {D : va_G} {dA : Nat → ClassId} {an : jaR → Nat} {sv : Value} (hst : l.stackTraces = false) (hs : sv = .null ∨ ∃ a, sv = .ref a) {x1 : Int32} {σ : jaT} (hI : jI σ) :
    Met l ⟨"AgreedInputLaw", "serial", "(LAgreedInput;I[J)I"⟩ (.codeWith ⟨"AgreedInputLaw", "serial", "(LAgreedInput;I[J)I"⟩ method_5_code 4 (some .int) [(0, 9, 12, 13)] :: jaTB) jxRl (va_Pc ([jcA, .inl x1, jcO].map (jaTr an sv)) (jxPre D dA an sv σ)) (jaQc D dA an 1 (σ 21) (jxW σ (jgSer ((σ 20).1 72 0) ((σ 20).1 75 0) ((σ 20).1 76 0) x1))) 1 6 (jaA0 an) := by
  refine jxl_met hs (as := [.inl x1]) (px := 4) (idx := 18) (f1 := jw1_serial) (f2 := jw2_serial) (f3 := jw3_serial) (ps2 := [0, 4]) (by decide +kernel) rfl (jw_A_serial hst hs hI) (by decide +kernel) (by decide +kernel) (by decide +kernel) rfl rfl (jaD_ok (by decide +kernel)) (by decide +kernel) jwW_serial ⟨rfl, by show (parseMethodDescriptor "(I)I").map (fun d => d.parameters.length) = some 1; decide +kernel⟩ (by decide) (by simp [jaArg]) ⟨Or.inl (by decide +kernel), trivial, Or.inl (by decide +kernel), trivial⟩ ?_ ?_ ?_ ?_
  · exact Or.inl ⟨3, jaD_ok (by decide +kernel), rfl, by decide⟩
  · exact jaRun_go (jaCall_self jaAr jaMt 33) [] 5 _ _ _ _ ⟨rfl, rfl, rfl, rfl⟩
  · intro v τ hJ hIτ h20 h22
    refine jaRun_go (jaCall_self jaAr jaMt 33) [] 10 _ _ _ _ ?_
    refine ⟨by rintro (z | z) <;> exact absurd z (by decide), ?_⟩
    show jxW σ _ (some (.inl 0)) (jaU τ 22 (jaUL (τ 22) 97 0 (jaIx 0) v.toInt64))
    rw [show jaIx 0 = 0 from by decide]
    exact Or.inl ⟨rfl, v, τ, hJ, hIτ, h20, h22, rfl⟩
  · intro hno
    exact jaRun_go (jaCall_self jaAr jaMt 33) [] 10 _ _ _ _ (Or.inr ⟨rfl, rfl, hno⟩)
end
