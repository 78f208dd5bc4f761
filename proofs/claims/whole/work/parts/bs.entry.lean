section
/-! the law from its entry -/
def jeS21 (xs : Nat → Int32) : jaS := (fun _ _ j => xs j, fun _ _ _ => 0)
theorem je_ws : Jvm.Cond.laysStatic "java/lang/String" "COMPACT_STRINGS" "Z" ∈ lw_tbl ∧ Jvm.Cond.initialized "java/lang/String" ∈ lw_tbl ∧ Jvm.Cond.laysStatic "jdk/internal/util/Preconditions" "SIOOBE_FORMATTER" "Ljava/util/function/BiFunction;" ∈ lw_tbl ∧ Jvm.Cond.initialized "jdk/internal/util/Preconditions" ∈ lw_tbl ∧
    Jvm.Cond.laysStatic Bundle.tN "UNASSIGNED_STACK" Bundle.steD ∈ lw_tbl ∧ Jvm.Cond.laysStatic Bundle.tN "SUPPRESSED_SENTINEL" Bundle.listD ∈ lw_tbl ∧ Jvm.Cond.initialized Bundle.tN ∈ lw_tbl ∧ Jvm.Cond.stringRef "AgreedInput$Reader" 50 jaS0 ∈ lw_tbl ∧ Jvm.Cond.stringRef "AgreedInput$Reader" 68 jaS1 ∈ lw_tbl ∧ jaNestW ∈ lw_tbl := by decide +kernel
theorem je_fl : Jvm.Cond.eq (.static "java/lang/String" "COMPACT_STRINGS" "Z") (.int 1) ∈ jeFl ∧ Jvm.Cond.isRef (.static "jdk/internal/util/Preconditions" "SIOOBE_FORMATTER" "Ljava/util/function/BiFunction;") ∈ jeFl ∧ Jvm.Cond.isRef (.static Bundle.tN "UNASSIGNED_STACK" Bundle.steD) ∈ jeFl ∧ Jvm.Cond.isRef (.static Bundle.tN "SUPPRESSED_SENTINEL" Bundle.listD) ∈ jeFl := by decide +kernel
theorem je_env {b : Nat} {s : State} (hts : ∀ w ∈ lw_tbl, w.before #[Value.ref b] s = true) (hg : (Jvm.Cond.and given_1 narrow_1).before #[Value.ref b] s = true) :
    ∃ (D : va_G) (dA : Nat → ClassId) (sv : Value) (adK adV : Nat → Nat), (sv = .null ∨ ∃ a, sv = .ref a) ∧ jkEnv D dA s ∧ jxEnv (jlA s) s s.heap ∧ ∀ an : jaR → Nat, an (100, 23, 0) = adK 0 → an (102, 24, 0) = adK 1 → an (101, 23, 0) = adV 0 → an (103, 24, 0) = adV 1 → jaEnv D dA an sv (jlA s) s s.heap := by
  obtain ⟨w1, w2, w3, w4, w5, w6, w7, w8, w9, w10⟩ := je_ws
  obtain ⟨f1, f2, f3, f4⟩ := je_fl
  have hf : ∀ w, w ∈ jeFl → w.before #[Value.ref b] s = true := fun w hw => flat_of_before _ hg w hw
  have hA : ∀ a : Nat, a < s.heap.size → ¬ jlA s a := fun a ha z => absurd z (Nat.not_le.mpr ha)
  obtain ⟨D, dA, hK⟩ := je_K hts
  obtain ⟨adK, adV, hS, hT⟩ := je_S (A := jlA s) hg hA
  obtain ⟨sv, hs, hZ⟩ : ∃ sv : Value, (sv = .null ∨ ∃ a, sv = .ref a) ∧ va_Z "jdk/internal/util/Preconditions" "SIOOBE_FORMATTER" "Ljava/util/function/BiFunction;" sv (jlA s) s s.heap := by
    rcases va_Zqof (hts _ w3) (hts _ w4) (hf _ f2) hA with h | ⟨t, h⟩
    · exact ⟨_, Or.inl rfl, h⟩
    · exact ⟨_, Or.inr ⟨t, rfl⟩, h⟩
  have hN : va_Nw jaNestW s := va_tabs rfl rfl (hts _ w10)
  refine ⟨D, dA, sv, adK, adV, hs, ⟨hK, fun e he => va_tabs rfl rfl (hts _ (jaOk_in jkWK_ok e he)), va_AO.of (hts _ je_aw.2.2.2.2.1), va_AO.of (hts _ je_aw.2.2.2.2.2.1), va_AO.of (hts _ je_aw.2.2.2.2.2.2)⟩, ⟨fun w hw => ?_, vx_Zqof (hts _ w5) (hts _ w7) (hf _ f3) hA, vx_Zqof (hts _ w6) (hts _ w7) (hf _ f4) hA⟩, fun an h0 h1 h2 h3 => ⟨hK, hN, ?_, ?_, va_Zof (hts _ w1) (hts _ w2) (va_eqt (hf _ f1)) hA, hZ, ?_, ?_⟩⟩
  · have h := jxTB_ok hw
    have ho := h.2
    rw [jxOk, Bool.and_eq_true] at ho
    exact va_tabs ho.1 rfl (hts _ h.1)
  · rw [h0]
    exact vk_R.of (hts _ w8) (hT 0 (by decide))
  · rw [h1]
    exact vk_R.of (hts _ w9) (hT 1 (by decide))
  · intro i hi
    have : i = 0 ∨ i = 1 := by omega
    rcases this with rfl | rfl
    · have q := hS.1 0 (by decide)
      rw [← h0, ← h2] at q
      exact q
    · have q := hS.1 1 (by decide)
      rw [← h1, ← h3] at q
      exact q
  · intro i j hi hj e
    have : i = 0 ∨ i = 1 := by omega
    have hj : j = 0 ∨ j = 1 := by omega
    rcases this with rfl | rfl <;> rcases hj with rfl | rfl
    · rfl
    · have e : an (100, 23, 0) = an (102, 24, 0) := e
      rw [h0, h1] at e
      exact hS.2 _ _ (by decide) (by decide) e
    · have e : an (102, 24, 0) = an (100, 23, 0) := e
      rw [h0, h1] at e
      exact hS.2 _ _ (by decide) (by decide) e
    · rfl
theorem jeW_value : ∀ w ∈ va_wsS "AgreedInputLaw" 73 ⟨"AgreedInputLaw", "value", "(LAgreedInput;II[J)I"⟩ [.codeWith ⟨"AgreedInputLaw", "value", "(LAgreedInput;II[J)I"⟩ method_3_code 5 (some .int) [(0, 10, 13, 13)]], w ∈ lw_tbl ∧ goodWord w = true := by
  intro w hw
  have : ((va_wsS "AgreedInputLaw" 73 ⟨"AgreedInputLaw", "value", "(LAgreedInput;II[J)I"⟩ [.codeWith ⟨"AgreedInputLaw", "value", "(LAgreedInput;II[J)I"⟩ method_3_code 5 (some .int) [(0, 10, 13, 13)]]).all fun w => decide (w ∈ lw_tbl) && goodWord w) = true := by decide +kernel
  have := List.all_eq_true.mp this w hw
  rw [Bool.and_eq_true] at this
  exact ⟨of_decide_eq_true this.1, this.2⟩
theorem jeP_value : jaPc (jf_L_law.drop 247) = 509 ∧ jaPc (jf_L_law.drop 248) = 512 := by decide +kernel
theorem jeD_value : decode code (jaPc (jf_L_law.drop 247)) = .ok (.invokestatic 73, 3) := by
  rw [jeP_value.1]
  exact jaD_ok (by decide +kernel)
theorem jeY_value : (parseMethodDescriptor "(LAgreedInput;II[J)I").map (fun d => d.parameters.length) = some 4 := by decide +kernel
theorem jeW_key : ∀ w ∈ va_wsS "AgreedInputLaw" 82 ⟨"AgreedInputLaw", "key", "(LAgreedInput;II[J)I"⟩ [.codeWith ⟨"AgreedInputLaw", "key", "(LAgreedInput;II[J)I"⟩ method_4_code 5 (some .int) [(0, 10, 13, 13)]], w ∈ lw_tbl ∧ goodWord w = true := by
  intro w hw
  have : ((va_wsS "AgreedInputLaw" 82 ⟨"AgreedInputLaw", "key", "(LAgreedInput;II[J)I"⟩ [.codeWith ⟨"AgreedInputLaw", "key", "(LAgreedInput;II[J)I"⟩ method_4_code 5 (some .int) [(0, 10, 13, 13)]]).all fun w => decide (w ∈ lw_tbl) && goodWord w) = true := by decide +kernel
  have := List.all_eq_true.mp this w hw
  rw [Bool.and_eq_true] at this
  exact ⟨of_decide_eq_true this.1, this.2⟩
theorem jeP_key : jaPc (jf_L_law.drop 295) = 577 ∧ jaPc (jf_L_law.drop 296) = 580 := by decide +kernel
theorem jeD_key : decode code (jaPc (jf_L_law.drop 295)) = .ok (.invokestatic 82, 3) := by
  rw [jeP_key.1]
  exact jaD_ok (by decide +kernel)
theorem jeY_key : (parseMethodDescriptor "(LAgreedInput;II[J)I").map (fun d => d.parameters.length) = some 4 := by decide +kernel
theorem jeW_serial : ∀ w ∈ va_wsS "AgreedInputLaw" 118 ⟨"AgreedInputLaw", "serial", "(LAgreedInput;I[J)I"⟩ [.codeWith ⟨"AgreedInputLaw", "serial", "(LAgreedInput;I[J)I"⟩ method_5_code 4 (some .int) [(0, 9, 12, 13)]], w ∈ lw_tbl ∧ goodWord w = true := by
  intro w hw
  have : ((va_wsS "AgreedInputLaw" 118 ⟨"AgreedInputLaw", "serial", "(LAgreedInput;I[J)I"⟩ [.codeWith ⟨"AgreedInputLaw", "serial", "(LAgreedInput;I[J)I"⟩ method_5_code 4 (some .int) [(0, 9, 12, 13)]]).all fun w => decide (w ∈ lw_tbl) && goodWord w) = true := by decide +kernel
  have := List.all_eq_true.mp this w hw
  rw [Bool.and_eq_true] at this
  exact ⟨of_decide_eq_true this.1, this.2⟩
theorem jeP_serial : jaPc (jf_L_law.drop 572) = 947 ∧ jaPc (jf_L_law.drop 573) = 950 := by decide +kernel
theorem jeD_serial : decode code (jaPc (jf_L_law.drop 572)) = .ok (.invokestatic 118, 3) := by
  rw [jeP_serial.1]
  exact jaD_ok (by decide +kernel)
theorem jeY_serial : (parseMethodDescriptor "(LAgreedInput;I[J)I").map (fun d => d.parameters.length) = some 3 := by decide +kernel
theorem jeId : jkId (0, 0, 0) = 0 ∧ jkId (70, 20, 0) = 558 ∧ jkId (97, 22, 0) = 584 := by decide +kernel
theorem jeIn : (0, 0, 0) ∈ jaRefs ∧ (70, 20, 0) ∈ jaRefs ∧ (97, 22, 0) ∈ jaRefs ∧ (96, 21, 0) ∉ jaRefs ∧ (100, 23, 0) ∉ jaRefs ∧ (101, 23, 0) ∉ jaRefs ∧ (102, 24, 0) ∉ jaRefs ∧ (103, 24, 0) ∉ jaRefs ∧ (96, 21, 0) ∈ jaSp := ⟨by decide +kernel, by decide +kernel, by decide +kernel, by decide +kernel, by decide +kernel, by decide +kernel, by decide +kernel, by decide +kernel, by decide +kernel⟩
theorem jeNp : jkNp jkf_L = true := by decide +kernel
theorem jePc : jaPc (jkf_L.drop 0) = 0 ∧ jaPc (jkf_L.drop 13) = 23 ∧ jaPc (jaAt jf_L_law jp_L_law 1) = 23 ∧ jkcL.length = 585 := by decide +kernel
end
