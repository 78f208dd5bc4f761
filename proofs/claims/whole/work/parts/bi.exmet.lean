section
/-! the three methods that throw, as contracts -/
theorem W.jxiret {p : Program} {l : Launch} {e : Env} {R : Room} {s : State} {m : MethodId} {args : Array Value} {below : List Frame} {meth : Method} {c : Code} {H : Heap} {locs : List Loc} {Qc : Array Value → State → Outcome → State → Prop} {XC : String → State → State → Prop} {free : Addr → Prop} {mc ms : Nat} {ls : Array Slot} {g : List Value} {pc : Nat}
    (h : W p l e R s m args below meth c H locs mc ms (MQ below Qc args s mc ms free) (F0 m pc ls g)) : W p l e R s m args below meth c H locs 0 0 (vx_MQ below Qc XC args s mc ms free) (F0 m pc ls g) := W.widen (Nat.zero_le _) (Nat.zero_le _) (vx_ret h)
def jxRm : Room := { frames := 33, cells := 1, slots := 6, locals := 64 * 33 }
def jxQ (σ : jaT) (J : Int32 → Prop) : jaQ := fun r τ => ∃ v, r = some (.inl v) ∧ J v ∧ jI τ ∧ τ 20 = σ 20 ∧ τ 22 = σ 22
def jxX (D : va_G) (dA : Nat → ClassId) (an : jaR → Nat) (σ : jaT) (J : Int32 → Prop) : String → State → State → Prop := vx_X (S := Unit) (fun _ => ¬ ∃ v, J v) (fun E _ t => E = jxE ∧ va_P D jaCl (jaWs dA an σ) t.heap) (jaA0 an)
abbrev jxMet (l : Launch) (D : va_G) (dA : Nat → ClassId) (an : jaR → Nat) (sv : Value) (y : MethodName) (cc : ByteArray) (nL : Nat) (as : List jaV) (σ : jaT) (J : Int32 → Prop) : Prop :=
  vx_Met l y (.code y cc nL (some .int) :: jaTB) jxRm (va_Pc (as.map (jaTr an sv)) (jxPre D dA an sv σ)) (jaQc D dA an 1 (σ 21) (jxQ σ J)) (jxX D dA an σ J) 1 6 (jaA0 an)
set_option maxHeartbeats 4000000 in
theorem jx_met {l : Launch} {D : va_G} {dA : Nat → ClassId} {an : jaR → Nat} {sv : Value} (hst : l.stackTraces = false) (hs : sv = .null ∨ ∃ a, sv = .ref a) {y : MethodName} {cc : ByteArray} {nL px : Nat} {f : List jaI} {ps : List Nat} {as : List jaV} {σ : jaT} {J : Int32 → Prop}
    (hpl : plainName y.cls = true) (hyc : y.cls = "AgreedInput") (hck : jaCk 10 cc nL 1 f ps f = true) (hp0 : jaPc (jaAt f ps 0) = 0)
    (hd : decode cc px = .ok (.new 271, 3) ∧ decode cc (px + 3) = .ok (.dup, 1) ∧ decode cc (px + 4) = .ok (.invokespecial 273, 3) ∧ decode cc (px + 7) = .ok (.athrow, 1))
    (hal : (jaArg as).length = nL) (hvs : jaVs as)
    (hrun : jaRun jaAr (jaDe 32) f ps (jxQ σ J) (fun is _ st τ => jaPc is = px ∧ st = [] ∧ τ = σ ∧ ¬ ∃ v, J v) (jaAt f ps 0) (jaArg as) [] σ) :
    jxMet l D dA an sv y cc nL as σ J := by
  refine vx_ofW (cc := cc) (maxL := nL) (ret := some .int) hpl rfl ?_
  intro p e s m args below meth c s₁ B hml hte hv
  obtain ⟨rfl, ⟨hE, hhp⟩, hX⟩ := hv
  have hx := B.exec
  have hb := B.bytes
  have hr := B.returns
  have hts0 := atoms_spec (ws := (.code y cc nL (some .int) :: jaTB)) B.pre
  have hts : ∀ w ∈ lw_tbl, goodWord w = true → w.before (as.map (jaTr an sv)).toArray s = true := fun w hw hg => hts0 w (List.mem_cons_of_mem _ (jaTB_in hw hg))
  have hown : s.vm.findClass "AgreedInput" = some m.cls := by
    have := findClass_of_methodNamed B.named
    rw [hyc] at this
    exact this
  have hlocks := B.notSynchronized
  have hlA : (lg_sl (as.map (jaTr an sv))).length ≤ nL := by
    rw [jaArg_len hs, hal]
    exact Nat.le_refl _
  have hl1 := lv_entry (as.map (jaTr an sv)) (n := nL) hlA
  rw [lg_entry_eq]
  generalize (lg_sl (as.map (jaTr an sv)) ++ List.replicate (nL - (lg_sl (as.map (jaTr an sv))).length) Slot.unset).toArray = ls at hl1 ⊢
  have hlh : jaLh an sv ls nL (jaArg as) := by
    refine ⟨hal, hl1.1, hl1.2.1, fun i v hi => ?_⟩
    have q := jaArg_at (an := an) hs as 0 i v hi
    rw [Nat.zero_add] at q
    exact hl1.2.2 _ q
  have hstep := jaSim_step (p := p) (l := l) (e := e) (R := (headSpec (.code y cc nL (some .int) :: jaTB) jxRm).room) (s := s) (m := m) (args := (as.map (jaTr an sv)).toArray) (below := below) (meth := meth) (c := c) (cells := 0) (slots := 0) (Qm := vx_MQ below (jaQc D dA an 1 (σ 21) (jxQ σ J)) (jxX D dA an σ J) (as.map (jaTr an sv)).toArray s 1 6 (jaA0 an))
      (D := D) (dA := dA) (an := an) (sv := sv) (A := jaA0 an) (cc := cc) (nL := nL) (rt := 1) (own := 10) (Ar := jaAr) (Γ := jaDe 32) (f := f) (ps := ps) (Q := jxQ σ J) (X := fun is _ st τ => jaPc is = px ∧ st = [] ∧ τ = σ ∧ ¬ ∃ v, J v) (S21 := σ 21) (d := 32)
      hx hb hml hown hts hE hs hck (fun _ _ => rfl) (Or.inl (by decide)) (fun y' as' σ' Q' hy' hv' h' => jaCall_met l D dA an sv hs 32 y' as' σ' Q' hy' hv' h') (fun _ h => h) (Nat.le_refl _) (Nat.le_refl _) (Nat.zero_le _) (Nat.zero_le _) ?_ ?_
  · have hsim := jaRun_ind (P := jaSim p l e (headSpec (.code y cc nL (some .int) :: jaTB) jxRm).room s m (as.map (jaTr an sv)).toArray below meth c D dA an sv (jaA0 an) nL f (σ 21) 0 0 (vx_MQ below (jaQc D dA an 1 (σ 21) (jxQ σ J)) (jxX D dA an σ J) (as.map (jaTr an sv)).toArray s 1 6 (jaA0 an))) hrun hstep
    have q := hsim ⟨_, rfl⟩ (fun i v hi => jaArg_val as hvs i v hi) trivial rfl s.heap [] ls hlh hhp va_S.rf
    rw [hp0] at q
    exact q
  · intro r τ H locs pc lsA hQ h21 hhp' hS hcase
    rcases hcase with ⟨hrt, -, -⟩ | ⟨hrt, -, -⟩ | ⟨⟨x, rfl, hrt⟩, hd9⟩
    · exact absurd hrt (by decide)
    · exact absurd hrt (by decide)
    · refine W.widen (Nat.zero_le 1) (Nat.zero_le 6) (vx_ret ?_)
      exact W.iret hx hb hr (fun t ht hW => ⟨⟨x, τ, rfl, hQ, by rw [ht]; exact hhp'.1, h21⟩, hS.F ht⟩) hS.2.2 hd9
  · rintro is ls9 st9 τ ⟨h1, rfl, rfl, hno⟩ hn9 hvl9 hvs9 h219 H locs lsA hlh9 hhp9 hS9
    rw [h1]
    have hw9 : ∀ w ∈ jxAll, w.before (as.map (jaTr an sv)).toArray s = true := fun w hw => by
      have q := hX.1 w (jxAll_ok hw).1
      exact va_tabs (by have := (jxTB_ok (jxAll_ok hw).1).2; rw [jxOk, Bool.and_eq_true] at this; exact this.1) rfl q
    refine vx_throw0 (cls := jxE) (names := jxN) (ik := 271) (ic := 273) (A := jaA0 an) hx hb hst hown jxFit.1 jxFit.2 (hw9 _ (by unfold jxAll; exact List.mem_cons_self)) (hw9 _ (by unfold jxAll; exact List.mem_cons_of_mem _ List.mem_cons_self)) (fun w hw => hw9 w (by unfold jxAll; exact List.mem_cons_of_mem _ (List.mem_cons_of_mem _ hw))) (fun w hw => (jxAll_ok hw).2) hX.2.1 hX.2.2 hS9 (hlh9.2.1.trans hml.symm) hd.1 hd.2.1 hd.2.2.1 hd.2.2.2 (fun x hx => (hte x hx).elim) (by show (2 : Nat) + 3 < 33; decide) (by show (0 : Nat) + (13 * (2 + 1) + 42) ≤ 64 * 33; decide) (by show (0 : Nat) + 1 ≤ 1; decide) (by show (0 : Nat) + 6 ≤ 6; decide) hlocks ?_ hS9.2.2 (Nat.le_refl _) (Nat.le_refl _)
    intro t hA hsz hk
    refine ⟨(), hno, ⟨rfl, hhp9.1.kept fun k q hq => hk q.1 ((hhp9.1 k q hq).lt)⟩, Nat.le_trans hS9.1 hsz, fun q hq hn => ?_⟩
    rw [hk q (Nat.lt_of_lt_of_le hq hS9.1)]
    exact hS9.2.1 q hq hn
end
