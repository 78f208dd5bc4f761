section
/-! the law's own methods that catch -/
abbrev jcO : jaV := .inr (.inr (97, 22, 0))
def jxRl : Room := { frames := 34, cells := 1, slots := 6, locals := 64 * 34 }
def jxW (σ : jaT) (J : Int32 → Prop) : jaQ := fun r τ => (r = some (.inl 0) ∧ ∃ v τ0, J v ∧ jI τ0 ∧ τ0 20 = σ 20 ∧ τ0 22 = σ 22 ∧ τ = jaU τ0 22 (jaUL (τ0 22) 97 0 0 v.toInt64)) ∨ (r = some (.inl 1) ∧ τ = σ ∧ ¬ ∃ v, J v)
theorem jxOfW {l : Launch} {y : MethodName} {ws ws' : List Jvm.Cond} {rm : Room} {Pc : Array Value → State → Prop} {Qc : Array Value → State → Outcome → State → Prop} {mc ms : Nat} {free : Addr → Prop} {cc : ByteArray} {maxL : Nat} {ret : Option FieldType} {hh : List (Nat × Nat × Nat × Nat)}
    (hy : plainFor y = true) (hw : ws = Jvm.Cond.codeWith y cc maxL ret hh :: ws')
    (body : ∀ p e s m args below meth c s₁, BodyLoose p l y (headSpec ws rm) cc maxL ret e s m args below meth c s₁ → c.maxLocals = maxL → c.exceptionTable.toList = tableOf hh → Pc args s →
      W p l e (headSpec ws rm).room s m args below meth c s.heap [] 0 0 (MQ below Qc args s mc ms free) (entryFrame m args maxL)) : Met l y ws rm Pc Qc mc ms free := by
  refine MetFree.of_bodySF (code := cc) (maxLocals := maxL) (ret := ret) hy ?_ ?_
  · intro args s m h hn
    obtain ⟨m9, meth, c, hn9, h1, h2, h3, h4, -, h5, h6, -⟩ := Cond.codeWith_spec (atoms_spec (ws := ws) h _ (by rw [hw]; exact List.mem_cons_self))
    cases hn.symm.trans hn9
    exact ⟨meth, c, h1, h2, h3, h4, h5, h6⟩
  · intro p e s m args below meth c s₁ B hml hP _
    have hh0 : s₁.heap = s.heap := by rw [B.state]; rfl
    obtain ⟨t, a1, o, b1, b2, b3⟩ := body p e s m args below meth c s₁ B hml (vx_table (x := y) B (atoms_spec (ws := ws) B.pre _ (by rw [hw]; exact List.mem_cons_self))) hP s₁ hh0 (Stand.of_body B)
    exact ⟨t, o, a1, b1, b2, ⟨b3.1, b3.2⟩⟩
theorem jxLk_in : Jvm.Cond.classLink "AgreedInputLaw" 13 jxE ∈ jxTB ∧ Jvm.Cond.castable jxE jxE ∈ jxTB := by
  refine ⟨List.mem_filter.mpr ⟨?_, ?_⟩, List.mem_filter.mpr ⟨?_, ?_⟩⟩ <;> decide +kernel
set_option maxHeartbeats 8000000 in
theorem jxl_met {l : Launch} {D : va_G} {dA : Nat → ClassId} {an : jaR → Nat} {sv : Value} (hs : sv = .null ∨ ∃ a, sv = .ref a) {y yc : MethodName} {cc ccc : ByteArray} {nL nLc px idx pe ph : Nat} {f1 f2 f3 : List jaI} {ps2 : List Nat} {as : List jaV} {σ : jaT} {J : Int32 → Prop}
    (hpl : plainFor y = true) (hyc : y.cls = "AgreedInputLaw") (hM : jxMet l D dA an sv yc ccc nLc (jcA :: as) σ J)
    (hck1 : jaCk 12 cc nL 1 f1 [] f1 = true) (hck2 : jaCk 12 cc nL 1 f2 ps2 f2 = true) (hck3 : jaCk 12 cc nL 1 f3 [] f3 = true)
    (h1 : jaPc f1 = 0) (h2 : jaPc f2 = px + 3) (hd : decode cc px = .ok (.invokevirtual idx, 3)) (hcov : covers ⟨0, pe, ph, 13⟩ px = true)
    (hw : ∀ w ∈ wsV "AgreedInputLaw" idx "AgreedInput" yc [.code yc ccc nLc (some .int)], w ∈ lw_tbl ∧ goodWord w = true)
    (hdd : yc.cls = "AgreedInput" ∧ (parseMethodDescriptor yc.desc).map (fun d => d.parameters.length) = some as.length) (hnc : nLc ≤ 40)
    (hal : (jaArg (jcA :: (as ++ [jcO]))).length ≤ nL) (hvs : jaVs (jcA :: (as ++ [jcO])))
    (hast : (∃ k : Fin 4, decode cc ph = .ok (.astore_n k, 1) ∧ jaPc f3 = ph + 1 ∧ (k : Nat) < nL) ∨ (∃ k : Nat, decode cc ph = .ok (.astore k, 2) ∧ jaPc f3 = ph + 2 ∧ k < nL))
    (r1 : jaRun jaAr (jaDe 33) f1 [] (fun _ _ => False) (fun is ls st τ => jaPc is = px ∧ ls = jaArg (jcA :: (as ++ [jcO])) ++ jaPad (nL - (jaArg (jcA :: (as ++ [jcO]))).length) ∧ st = as.reverse ++ [jcA, .inl 0, jcO] ∧ τ = σ) f1 (jaArg (jcA :: (as ++ [jcO])) ++ jaPad (nL - (jaArg (jcA :: (as ++ [jcO]))).length)) [] σ)
    (r2 : ∀ (v : Int32) (τ : jaT), J v → jI τ → τ 20 = σ 20 → τ 22 = σ 22 → jaRun jaAr (jaDe 33) f2 ps2 (jxW σ J) jaNoX f2 (jaArg (jcA :: (as ++ [jcO])) ++ jaPad (nL - (jaArg (jcA :: (as ++ [jcO]))).length)) [.inl v, .inl 0, jcO] τ)
    (r3 : (¬ ∃ v, J v) → jaRun jaAr (jaDe 33) f3 [] (jxW σ J) jaNoX f3 (jaPad nL) [] σ) :
    Met l y (.codeWith y cc nL (some .int) [(0, pe, ph, 13)] :: jaTB) jxRl (va_Pc ((jcA :: (as ++ [jcO])).map (jaTr an sv)) (jxPre D dA an sv σ)) (jaQc D dA an 1 (σ 21) (jxW σ J)) 1 6 (jaA0 an) := by
  refine jxOfW (cc := cc) (maxL := nL) (ret := some .int) hpl rfl ?_
  intro p e s m args below meth c s₁ B hml hte hv
  obtain ⟨rfl, ⟨hE, hhp⟩, hX⟩ := hv
  have hx := B.exec
  have hb := B.bytes
  have hr := B.returns
  have hts0 := atoms_spec (ws := (.codeWith y cc nL (some .int) [(0, pe, ph, 13)] :: jaTB)) B.pre
  have hTB : ∀ w ∈ jaTB, w.before ((jcA :: (as ++ [jcO])).map (jaTr an sv)).toArray s = true := fun w hw => hts0 w (List.mem_cons_of_mem _ hw)
  have hts : ∀ w ∈ lw_tbl, goodWord w = true → w.before ((jcA :: (as ++ [jcO])).map (jaTr an sv)).toArray s = true := fun w hw hg => hTB w (jaTB_in hw hg)
  have hown : s.vm.findClass "AgreedInputLaw" = some m.cls := by
    have := findClass_of_methodNamed B.named
    rw [hyc] at this
    exact this
  have hlocks := B.notSynchronized
  have hlA : (lg_sl ((jcA :: (as ++ [jcO])).map (jaTr an sv))).length ≤ nL := by
    rw [jaArg_len hs]
    exact hal
  have hl1 := lv_entry ((jcA :: (as ++ [jcO])).map (jaTr an sv)) (n := nL) hlA
  rw [lg_entry_eq]
  generalize (lg_sl ((jcA :: (as ++ [jcO])).map (jaTr an sv)) ++ List.replicate (nL - (lg_sl ((jcA :: (as ++ [jcO])).map (jaTr an sv))).length) Slot.unset).toArray = ls at hl1 ⊢
  have hlh : jaLh an sv ls nL (jaArg (jcA :: (as ++ [jcO])) ++ jaPad (nL - (jaArg (jcA :: (as ++ [jcO]))).length)) := by
    refine ⟨?_, hl1.1, hl1.2.1, fun i v hi => ?_⟩
    · rw [List.length_append, jaPad_len]
      omega
    · by_cases hi2 : i < (jaArg (jcA :: (as ++ [jcO]))).length
      · rw [List.getElem?_append_left hi2] at hi
        have q := jaArg_at (an := an) hs (jcA :: (as ++ [jcO])) 0 i v hi
        rw [Nat.zero_add] at q
        exact hl1.2.2 _ q
      · rw [List.getElem?_append_right (by omega)] at hi
        exact absurd hi (jaPad_at _ _ _)
  have hvl : jaVl (jaArg (jcA :: (as ++ [jcO])) ++ jaPad (nL - (jaArg (jcA :: (as ++ [jcO]))).length)) := by
    intro i v hi
    by_cases hi2 : i < (jaArg (jcA :: (as ++ [jcO]))).length
    · rw [List.getElem?_append_left hi2] at hi
      exact jaArg_val _ hvs i v hi
    · rw [List.getElem?_append_right (by omega)] at hi
      exact absurd hi (jaPad_at _ _ _)
  have hvp : jaVl (jaPad nL) := fun i v hi => absurd hi (jaPad_at _ _ _)
  have hO : jcO = .inr (.inr (97, 22, 0)) := rfl
  have hvas : jaVs as := jaVs_mem fun v hv => jaVs_all hvs v (List.mem_cons_of_mem _ (List.mem_append_left _ hv))
  have hv0 : jaVal jcA := jaVs_all hvs _ List.mem_cons_self
  have hv9 : jaVal jcO := jaVs_all hvs _ (List.mem_cons_of_mem _ (List.mem_append_right _ List.mem_cons_self))
  have hcell : ∀ {τ : jaT} {H : Heap}, va_P D jaCl (jaWs dA an τ) H → ∃ cellB : Cell, H[an (0, 0, 0)]? = some cellB ∧ cellB.vm.isStatics = false ∧ s.vm.findClass "AgreedInput" = some cellB.cls := by
    intro τ H hP
    obtain ⟨q0, hq0, hws⟩ := jaWs_get (dA := dA) (an := an) (σ := τ) (r := (0, 0, 0)) (by decide +kernel)
    obtain ⟨t, ht⟩ : ∃ t, (jaN (99, []) jaOb 0).2[0]? = some t := ⟨_, rfl⟩
    rw [jaCell_ob (r := (0, 0, 0)) ht] at hws
    exact va_recv hE.1 hP (jaCl_at (by decide +kernel)) hws
  have hcw : ∀ {R : Room}, R = (headSpec (.codeWith y cc nL (some .int) [(0, pe, ph, 13)] :: jaTB) jxRl).room → CallW R s ((jcA :: (as ++ [jcO])).map (jaTr an sv)).toArray "AgreedInputLaw" "AgreedInput" idx yc ccc nLc (some .int) (.code yc ccc nLc (some .int) :: jaTB) jxRm 1 6 as.length := by
    rintro R rfl
    refine cwV as.length hTB ?_ rfl rfl rfl ⟨hdd.1, by rw [hdd.1]; decide, by rw [hdd.1]; decide, hdd.2⟩ ⟨by show (33 : Nat) + 1 ≤ 34; decide, by show 8 + (nLc + 11) + 64 * 33 ≤ 64 * 34; omega⟩
    intro w hw1
    rcases List.mem_append.mp hw1 with hw1 | hw1
    · have := hw w (List.mem_append_left _ hw1)
      exact ⟨jaTB_in this.1 this.2, good_of_word this.2⟩
    · rcases List.mem_cons.mp hw1 with rfl | hw1
      · have := hw _ (List.mem_append_right _ List.mem_cons_self)
        exact ⟨jaTB_in this.1 this.2, good_of_word this.2⟩
      · exact ⟨hw1, good_of_word (List.mem_filter.mp hw1).2⟩
  have hret : ∀ {cells slots : Nat}, cells ≤ 1 → slots ≤ 6 → jaRets p l e (headSpec (.codeWith y cc nL (some .int) [(0, pe, ph, 13)] :: jaTB) jxRl).room s m ((jcA :: (as ++ [jcO])).map (jaTr an sv)).toArray below meth c D dA an sv (jaA0 an) cc 1 (σ 21) cells slots (jxW σ J) (MQ below (jaQc D dA an 1 (σ 21) (jxW σ J)) ((jcA :: (as ++ [jcO])).map (jaTr an sv)).toArray s 1 6 (jaA0 an)) := by
    intro cells slots hc1 hs6 r τ H locs pc lsA hQ h21 hhp' hS hcase
    rcases hcase with ⟨hrt, -, -⟩ | ⟨hrt, -, -⟩ | ⟨⟨x, rfl, hrt⟩, hd9⟩
    · exact absurd hrt (by decide)
    · exact absurd hrt (by decide)
    · refine W.widen hc1 hs6 ?_
      exact W.iret hx hb hr (fun t ht hW => ⟨⟨x, τ, rfl, hQ, by rw [ht]; exact hhp'.1, h21⟩, hS.F ht⟩) hS.2.2 hd9
  -- the rest after the call
  have step2 := jaSim_step (p := p) (l := l) (e := e) (R := (headSpec (.codeWith y cc nL (some .int) [(0, pe, ph, 13)] :: jaTB) jxRl).room) (s := s) (m := m) (args := ((jcA :: (as ++ [jcO])).map (jaTr an sv)).toArray) (below := below) (meth := meth) (c := c) (cells := 1) (slots := 6) (Qm := MQ below (jaQc D dA an 1 (σ 21) (jxW σ J)) ((jcA :: (as ++ [jcO])).map (jaTr an sv)).toArray s 1 6 (jaA0 an))
      (D := D) (dA := dA) (an := an) (sv := sv) (A := jaA0 an) (cc := cc) (nL := nL) (rt := 1) (own := 12) (Ar := jaAr) (Γ := jaDe 33) (f := f2) (ps := ps2) (Q := jxW σ J) (X := jaNoX) (S21 := σ 21) (d := 33)
      hx hb hml hown hts hE hs hck2 (fun _ _ => rfl) (Or.inl (by decide)) (fun y' as' σ' Q' hy' hv' h' => jaCall_met l D dA an sv hs 33 y' as' σ' Q' hy' hv' h') (fun _ h => h) (Nat.le_refl _) (Nat.le_refl _) (Nat.le_refl _) (Nat.le_refl _) (hret (Nat.le_refl _) (Nat.le_refl _)) (fun _ _ _ _ h => h.elim)
  have step3 := jaSim_step (p := p) (l := l) (e := e) (R := (headSpec (.codeWith y cc nL (some .int) [(0, pe, ph, 13)] :: jaTB) jxRl).room) (s := s) (m := m) (args := ((jcA :: (as ++ [jcO])).map (jaTr an sv)).toArray) (below := below) (meth := meth) (c := c) (cells := 1) (slots := 6) (Qm := MQ below (jaQc D dA an 1 (σ 21) (jxW σ J)) ((jcA :: (as ++ [jcO])).map (jaTr an sv)).toArray s 1 6 (jaA0 an))
      (D := D) (dA := dA) (an := an) (sv := sv) (A := jaA0 an) (cc := cc) (nL := nL) (rt := 1) (own := 12) (Ar := jaAr) (Γ := jaDe 33) (f := f3) (ps := []) (Q := jxW σ J) (X := jaNoX) (S21 := σ 21) (d := 33)
      hx hb hml hown hts hE hs hck3 (fun _ _ => rfl) (Or.inl (by decide)) (fun y' as' σ' Q' hy' hv' h' => jaCall_met l D dA an sv hs 33 y' as' σ' Q' hy' hv' h') (fun _ h => h) (Nat.le_refl _) (Nat.le_refl _) (Nat.le_refl _) (Nat.le_refl _) (hret (Nat.le_refl _) (Nat.le_refl _)) (fun _ _ _ _ h => h.elim)
  have step1 := jaSim_step (p := p) (l := l) (e := e) (R := (headSpec (.codeWith y cc nL (some .int) [(0, pe, ph, 13)] :: jaTB) jxRl).room) (s := s) (m := m) (args := ((jcA :: (as ++ [jcO])).map (jaTr an sv)).toArray) (below := below) (meth := meth) (c := c) (cells := 0) (slots := 0) (Qm := MQ below (jaQc D dA an 1 (σ 21) (jxW σ J)) ((jcA :: (as ++ [jcO])).map (jaTr an sv)).toArray s 1 6 (jaA0 an))
      (D := D) (dA := dA) (an := an) (sv := sv) (A := jaA0 an) (cc := cc) (nL := nL) (rt := 1) (own := 12) (Ar := jaAr) (Γ := jaDe 33) (f := f1) (ps := []) (Q := fun _ _ => False) (X := fun is ls st τ => jaPc is = px ∧ ls = jaArg (jcA :: (as ++ [jcO])) ++ jaPad (nL - (jaArg (jcA :: (as ++ [jcO]))).length) ∧ st = as.reverse ++ [jcA, .inl 0, jcO] ∧ τ = σ) (S21 := σ 21) (d := 33)
      hx hb hml hown hts hE hs hck1 (fun _ _ => rfl) (Or.inl (by decide)) (fun y' as' σ' Q' hy' hv' h' => jaCall_met l D dA an sv hs 33 y' as' σ' Q' hy' hv' h') (fun _ h => h) (Nat.le_refl _) (Nat.le_refl _) (Nat.zero_le _) (Nat.zero_le _) (fun _ _ _ _ _ _ h => h.elim) ?_
  · have q := jaRun_ind r1 step1 ⟨0, rfl⟩ hvl trivial rfl s.heap [] ls hlh hhp va_S.rf
    rw [h1] at q
    exact q
  · rintro is ls9 st9 τ ⟨e1, rfl, rfl, rfl⟩ hn9 hvl9 hvs9 h219 H locs lsA hlh9 hhp9 hS9
    rw [e1]
    have ej : jaTr an sv jcA = .ref (an (0, 0, 0)) := jaTr_ref (by decide)
    have eo : jaTr an sv jcO = .ref (an (97, 22, 0)) := jaTr_ref (by decide)
    have e0 : jaTr an sv (.inl 0) = .int 0 := rfl
    have hstk : (F0 m px lsA ((as.reverse ++ [jcA, .inl 0, jcO]).map (jaTr an sv))).stack = (as.map (jaTr an sv)).reverse ++ .ref (an (0, 0, 0)) :: [.int 0, .ref (an (97, 22, 0))] := by
      show (as.reverse ++ [jcA, .inl 0, jcO]).map (jaTr an sv) = _
      rw [List.map_append, List.map_reverse, List.map_cons, List.map_cons, List.map_cons, ej, eo, e0]
      rfl
    have hPV : PreV s H "AgreedInput" (an (0, 0, 0)) (va_Pc ((jcA :: as).map (jaTr an sv)) (jxPre D dA an sv τ)) (as.map (jaTr an sv)) := by
      refine ⟨jxPre_blind, hcell hhp9.1, fun U hU hW => ⟨?_, jxPre_at hE hX (fun _ h => h) hhp9 hS9 hU hW⟩⟩
      rw [List.map_cons, ej]
    have hrun : vx_Run p l e (headSpec (.codeWith y cc nL (some .int) [(0, pe, ph, 13)] :: jaTB) jxRl).room s m ((jcA :: (as ++ [jcO])).map (jaTr an sv)).toArray below meth c H locs 0 0 1 6 (F0 m px lsA ((as.reverse ++ [jcA, .inl 0, jcO]).map (jaTr an sv))) [.int 0, .ref (an (97, 22, 0))]
        (va_Qi (S := jaT) (fun r u => jxQ τ J (some (.inl r)) u) (fun u t => va_P D jaCl (jaWs dA an u) t.heap ∧ u 21 = τ 21) (jaA0 an) (Value.ref (an (0, 0, 0)) :: as.map (jaTr an sv)).toArray) (jxX D dA an τ J) (jaA0 an) :=
      vx_runV (As := as.map (jaTr an sv)) ⟨hx, hb, hml, hown, hTB⟩ hM (hcw rfl) hPV rfl (by rw [List.length_map]) hlh9.2.1 hstk (by show 2 * 0 + (1 + (1 + 0)) ≤ 8; decide) hd ⟨by show 0 + 1 ≤ 1; decide, by show 0 + 6 ≤ 6; decide⟩
    refine vx_calli hrun hS9 (fun q _ h => h) (fun q h => h) (fun q _ h => h) ?_ ?_
    · rintro E ce q9 - t H1 locs1 ht hvm hno ⟨rfl, hP1⟩ hz hk hS1 hce hcv hcl
      refine vx_catch hown [] ⟨0, pe, ph, 13⟩ [] (by rw [hte]; rfl) (fun z hz => nomatch hz) hcov (by show (13 : Nat) ≠ 0; decide) (name := jxE) ?_ ?_ hce hcv hcl ?_
      · exact va_tabs rfl rfl (hX.1 _ jxLk_in.1)
      · exact va_tabs rfl rfl (hX.1 _ jxLk_in.2)
      · have fin : ∀ ls' : Array Slot, ls'.size = nL → lv_wf ls' → W p l e (headSpec (.codeWith y cc nL (some .int) [(0, pe, ph, 13)] :: jaTB) jxRl).room s m ((jcA :: (as ++ [jcO])).map (jaTr an sv)).toArray below meth c H1 locs1 (0 + 1) (0 + 6) (MQ below (jaQc D dA an 1 (τ 21) (jxW τ J)) ((jcA :: (as ++ [jcO])).map (jaTr an sv)).toArray s 1 6 (jaA0 an)) (F0 m (jaPc f3) ls' []) := fun ls' hz1 hz2 =>
          jaRun_ind (r3 hno) step3 ⟨0, rfl⟩ hvp trivial rfl H1 locs1 ls' ⟨jaPad_len nL, hz1, hz2, fun i v hi => absurd hi (jaPad_at _ _ _)⟩ ⟨by rw [← ht]; exact hP1, hhp9.2⟩ hS1
        rcases hast with ⟨k, hdk, hp3, hk3⟩ | ⟨k, hdk, hp3, hk3⟩
        · refine lv_astore_n hx hb hdk rfl hlh9.has hk3 rfl (fun ls' hl' => ?_)
          rw [← hp3]
          exact fin ls' hl'.1 hl'.2.1
        · refine lv_astore hx hb hdk hlh9.has hk3 rfl (fun ls' hl' => ?_)
          rw [← hp3]
          exact fin ls' hl'.1 hl'.2.1
    · intro r u t H1 locs1 ht hvm hp hB hz hk hS1
      obtain ⟨v, ev, hJ, hI, h20, h22⟩ := hp
      cases ev
      have q := jaRun_ind (r2 r u hJ hI h20 h22) step2 ⟨0, rfl⟩ hvl9 ⟨trivial, trivial, hv9, trivial⟩ hB.2 H1 locs1 lsA hlh9 ⟨by rw [← ht]; exact hB.1, jaHp.addr hhp9.2⟩ hS1
      rw [h2] at q
      rw [← eo]
      exact q
end
