/-! a run of the pure machine is a contract of the method -/
theorem jaCls_own : ∀ y, y < 303 → jaN "" jaOn (jaY y).2.2.2.2.2 = (jaY y).1.cls := by decide +kernel
theorem jaPln : ∀ y, y < 303 → plainFor (jaY y).1 = true := by decide +kernel
theorem jaOfW {l : Launch} {y : MethodName} {ws ws' : List Jvm.Cond} {rm : Room} {Pc : Array Value → State → Prop} {Qc : Array Value → State → Outcome → State → Prop} {mc ms : Nat} {free : Addr → Prop} {cc : ByteArray} {maxL : Nat} {ret : Option FieldType}
    (hy : plainFor y = true) (hw : ws = Cond.code y cc maxL ret :: ws')
    (body : ∀ p e s m args below meth c s₁, BodyLoose p l y (headSpec ws rm) cc maxL ret e s m args below meth c s₁ → c.maxLocals = maxL → Pc args s →
      W p l e (headSpec ws rm).room s m args below meth c s.heap [] 0 0 (MQ below Qc args s mc ms free) (entryFrame m args maxL)) : Met l y ws rm Pc Qc mc ms free := by
  refine MetFree.of_bodySF (code := cc) (maxLocals := maxL) (ret := ret) hy ?_ ?_
  · intro args s m h hn
    obtain ⟨meth, c, h1, h2, h3, h4, h5, h6, -, -⟩ := Cond.code_spec hn (atoms_spec (ws := ws) h _ (by rw [hw]; exact List.mem_cons_self))
    exact ⟨meth, c, h1, h2, h3, h4, h5, h6⟩
  · intro p e s m args below meth c s₁ B hml hP _
    have hh0 : s₁.heap = s.heap := by rw [B.state]; rfl
    obtain ⟨t, a1, o, b1, b2, b3⟩ := body p e s m args below meth c s₁ B hml hP s₁ hh0 (Stand.of_body B)
    exact ⟨t, o, a1, b1, b2, ⟨b3.1, b3.2⟩⟩
theorem jaPc_0 : ∀ y, y < 303 → jaPc (jaMy y).1 = 0 := by decide +kernel
theorem jaArg_at {an : jaR → Nat} {sv : Value} (hs : sv = .null ∨ ∃ a, sv = .ref a) : ∀ (as : List jaV) (b i : Nat) (v : jaV), (jaArg as)[i]? = some (some v) → (b + i, jaTr an sv v) ∈ lv_args b (as.map (jaTr an sv))
  | [], _, _, _, h => by simp [jaArg] at h
  | .inr (.inl x) :: as, b, i, v, h => by
    match i, h with
    | 0, h =>
      simp [jaArg] at h
      subst h
      exact List.mem_cons_self
    | 1, h => simp [jaArg] at h
    | i + 2, h =>
      simp only [jaArg, List.getElem?_cons_succ] at h
      have q := jaArg_at (an := an) hs as (b + 2) i v h
      rw [show b + 2 + i = b + (i + 2) by omega] at q
      exact List.mem_cons_of_mem _ q
  | .inl x :: as, b, i, v, h => by
    match i, h with
    | 0, h =>
      simp [jaArg] at h
      subst h
      exact List.mem_cons_self
    | i + 1, h =>
      simp only [jaArg, List.getElem?_cons_succ] at h
      have q := jaArg_at (an := an) hs as (b + 1) i v h
      rw [show b + 1 + i = b + (i + 1) by omega] at q
      exact List.mem_cons_of_mem _ q
  | .inr (.inr r) :: as, b, i, v, h => by
    match i, h with
    | 0, h =>
      simp [jaArg] at h
      subst h
      exact List.mem_cons_self
    | i + 1, h =>
      simp only [jaArg, List.getElem?_cons_succ] at h
      have q := jaArg_at (an := an) hs as (b + 1) i v h
      rw [show b + 1 + i = b + (i + 1) by omega] at q
      have e : (jaTr an sv (.inr (.inr r))).category = 1 := by rw [jaTr_cat hs]; rfl
      rw [List.map_cons, lv_args, e]
      exact List.mem_cons_of_mem _ q
theorem jaArg_len {an : jaR → Nat} {sv : Value} (hs : sv = .null ∨ ∃ a, sv = .ref a) : ∀ (as : List jaV), (lg_sl (as.map (jaTr an sv))).length = (jaArg as).length
  | [] => rfl
  | v :: as => by
    have ih := jaArg_len (an := an) hs as
    rw [List.map_cons, lg_sl, List.flatMap_cons, List.length_append]
    rw [lg_sl] at ih
    rw [ih, jaTr_cat hs]
    rcases v with x | x | r
    · simp [jaIsL, jaArg]; omega
    · simp [jaIsL, jaArg]; omega
    · simp [jaIsL, jaArg]; omega
theorem jaPad_len : ∀ n, (jaPad n).length = n
  | 0 => rfl
  | n + 1 => by rw [jaPad, List.length_cons, jaPad_len n]
theorem jaPad_at : ∀ (n i : Nat) (v : jaV), (jaPad n)[i]? ≠ some (some v)
  | 0, i, v, h => by simp [jaPad] at h
  | n + 1, 0, v, h => by simp [jaPad] at h
  | n + 1, i + 1, v, h => jaPad_at n i v (by simpa [jaPad] using h)
theorem jaArg_val : ∀ (as : List jaV), jaVs as → ∀ (i : Nat) (v : jaV), (jaArg as)[i]? = some (some v) → jaVal v
  | [], _, _, _, h => by simp [jaArg] at h
  | .inr (.inl x) :: as, q, i, v, h => by
    match i, h with
    | 0, h => simp [jaArg] at h; subst h; trivial
    | 1, h => simp [jaArg] at h
    | i + 2, h => exact jaArg_val as q.2 i v (by simpa [jaArg] using h)
  | .inl x :: as, q, i, v, h => by
    match i, h with
    | 0, h => simp [jaArg] at h; subst h; trivial
    | i + 1, h => exact jaArg_val as q.2 i v (by simpa [jaArg] using h)
  | .inr (.inr r) :: as, q, i, v, h => by
    match i, h with
    | 0, h => simp [jaArg] at h; subst h; exact q.1
    | i + 1, h => exact jaArg_val as q.2 i v (by simpa [jaArg] using h)
set_option maxHeartbeats 4000000 in
theorem jaCall_met (l : Launch) (D : va_G) (dA : Nat → ClassId) (an : jaR → Nat) (sv : Value) (hs : sv = .null ∨ ∃ a, sv = .ref a) : ∀ (d y : Nat) (as : List jaV) (σ : jaT) (Q : jaQ), y < 303 → jaVs as → jaCall jaAr jaMt d y as σ Q → jaMet l D dA an sv d y as σ Q
  | 0, _, _, _, _, _, _, h => h.elim
  | d + 1, y, as, σ, Q, hy, hvs, h => by
    obtain ⟨hl, hrun⟩ := jaBif_elim h
    have hl := Nat.le_of_ble_eq_true hl
    obtain ⟨hck, hnl, hp0⟩ := jaG_all y hy
    refine jaOfW (cc := (jaY y).2.1) (maxL := (jaY y).2.2.1) (ret := (jaY y).2.2.2.1) (jaPln y hy) rfl ?_
    intro p e s m args below meth c s₁ B hml hv
    obtain ⟨rfl, hE, hhp⟩ := hv
    have hx := B.exec
    have hb := B.bytes
    have hr := B.returns
    have hts0 := atoms_spec (ws := jaWds y) B.pre
    have hts : ∀ w ∈ lw_tbl, goodWord w = true → w.before (as.map (jaTr an sv)).toArray s = true := fun w hw hg => hts0 w (List.mem_cons_of_mem _ (jaTB_in hw hg))
    have hown : s.vm.findClass (jaN "" jaOn (jaY y).2.2.2.2.2) = some m.cls := by
      rw [(jaCls_own y hy)]
      exact findClass_of_methodNamed B.named
    have hlocks := B.notSynchronized
    have hlA : (lg_sl (as.map (jaTr an sv))).length ≤ (jaY y).2.2.1 := by
      rw [jaArg_len hs, ← hnl]
      exact hl
    have hl1 := lv_entry (as.map (jaTr an sv)) (n := (jaY y).2.2.1) hlA
    rw [lg_entry_eq]
    generalize (lg_sl (as.map (jaTr an sv)) ++ List.replicate ((jaY y).2.2.1 - (lg_sl (as.map (jaTr an sv))).length) Slot.unset).toArray = ls at hl1 ⊢
    have hlh : jaLh an sv ls (jaY y).2.2.1 (jaArg as ++ jaPad ((jaMy y).2.2 - (jaArg as).length)) := by
      refine ⟨?_, hl1.1, hl1.2.1, fun i v hi => ?_⟩
      · rw [List.length_append, jaPad_len, ← hnl]
        have : (jaArg as).length ≤ (jaMy y).2.2 := hl
        omega
      · by_cases hi2 : i < (jaArg as).length
        · rw [List.getElem?_append_left hi2] at hi
          have q := jaArg_at (an := an) hs as 0 i v hi
          rw [Nat.zero_add] at q
          exact hl1.2.2 _ q
        · rw [List.getElem?_append_right (by omega)] at hi
          exact absurd hi (jaPad_at _ _ _)
    have hvl : jaVl (jaArg as ++ jaPad ((jaMy y).2.2 - (jaArg as).length)) := by
      intro i v hi
      by_cases hi2 : i < (jaArg as).length
      · rw [List.getElem?_append_left hi2] at hi
        exact jaArg_val as hvs i v hi
      · rw [List.getElem?_append_right (by omega)] at hi
        exact absurd hi (jaPad_at _ _ _)
    have hstep := jaSim_step (p := p) (l := l) (e := e) (R := (headSpec (jaWds y) (jaRm (d + 1))).room) (s := s) (m := m) (args := (as.map (jaTr an sv)).toArray) (below := below) (meth := meth) (c := c) (cells := 0) (slots := 0) (Qm := MQ below (jaQc D dA an (jaRt y) (σ 21) Q) (as.map (jaTr an sv)).toArray s 0 0 (jaA0 an))
      (D := D) (dA := dA) (an := an) (sv := sv) (A := jaA0 an) (cc := (jaY y).2.1) (nL := (jaY y).2.2.1) (rt := jaRt y) (own := (jaY y).2.2.2.2.2) (Ar := jaAr) (Γ := jaCall jaAr jaMt d) (f := (jaMy y).1) (ps := (jaMy y).2.1) (Q := Q) (X := jaNoX) (S21 := σ 21) (d := d)
      hx hb hml hown hts hE hs hck (fun _ _ => rfl) (Or.inl (by decide)) (fun y' as' σ' Q' hy' hv' h' => jaCall_met l D dA an sv hs d y' as' σ' Q' hy' hv' h') (fun _ h => h) (Nat.le_refl _) (Nat.le_refl _) (Nat.zero_le _) (Nat.zero_le _) ?_ (fun _ _ _ _ h => h.elim)
    · have hsim := jaRun_ind (P := jaSim p l e (headSpec (jaWds y) (jaRm (d + 1))).room s m (as.map (jaTr an sv)).toArray below meth c D dA an sv (jaA0 an) (jaY y).2.2.1 (jaMy y).1 (σ 21) 0 0 (MQ below (jaQc D dA an (jaRt y) (σ 21) Q) (as.map (jaTr an sv)).toArray s 0 0 (jaA0 an))) hrun hstep
      have q := hsim ⟨_, rfl⟩ hvl trivial rfl s.heap [] ls hlh hhp va_S.rf
      have e0 : jaPc (jaAt (jaMy y).1 (jaMy y).2.1 0) = 0 := by
        unfold jaAt
        rw [hp0]
        exact jaPc_0 y hy
      have q : W p l e (headSpec (jaWds y) (jaRm (d + 1))).room s m (as.map (jaTr an sv)).toArray below meth c s.heap [] 0 0 (MQ below (jaQc D dA an (jaRt y) (σ 21) Q) (as.map (jaTr an sv)).toArray s 0 0 (jaA0 an)) (F0 m (jaPc (jaAt (jaMy y).1 (jaMy y).2.1 0)) ls []) := q
      rw [e0] at q
      exact q
    · intro r σ' H locs pc lsA hQ h21 hhp' hS hcase
      have hret : ∀ z, (jaY y).2.2.2.1 = z → meth.sig.returnType = z := fun z hz => hr.trans hz
      rcases hcase with ⟨hrt, rfl, hd⟩ | ⟨hrt, ⟨x, rfl⟩, hd⟩ | ⟨⟨x, rfl, hrt⟩, hd⟩
      · have e1 : (jaY y).2.2.2.1 = none := by
          unfold jaRt at hrt
          split at hrt <;> first | assumption | (exfalso; omega)
        rw [hrt]
        exact W.vret hx hb (hret _ e1) (fun t ht hW => ⟨⟨σ', rfl, hQ, by rw [ht]; exact hhp'.1, h21⟩, hS.F ht⟩) hS.2.2 hd
      · have e1 : (jaY y).2.2.2.1 = some .long := by
          unfold jaRt at hrt
          split at hrt <;> first | assumption | (exfalso; omega)
        rw [hrt]
        exact W.lret hx hb (hret _ e1) (fun t ht hW => ⟨⟨x, σ', rfl, hQ, by rw [ht]; exact hhp'.1, h21⟩, hS.F ht⟩) hS.2.2 hd
      · rcases hrt with hrt | ⟨hrt, hv⟩ | ⟨hrt, hv⟩ | ⟨hrt, hv⟩
        · have e1 : (jaY y).2.2.2.1 = some .int := by
            unfold jaRt at hrt
            split at hrt <;> first | assumption | (exfalso; omega)
          rw [hrt]
          exact W.iret hx hb (hret _ e1) (fun t ht hW => ⟨⟨x, σ', rfl, hQ, by rw [ht]; exact hhp'.1, h21⟩, hS.F ht⟩) hS.2.2 hd
        · have e1 : (jaY y).2.2.2.1 = some .boolean := by
            unfold jaRt at hrt
            split at hrt <;> first | assumption | (exfalso; omega)
          rw [hrt]
          exact W.zret hx hb (hret _ e1) (jaNarB hv).1 (fun t ht hW => ⟨⟨x, σ', rfl, hQ, by rw [ht]; exact hhp'.1, h21⟩, hS.F ht⟩) hS.2.2 hd
        · have e1 : (jaY y).2.2.2.1 = some .char := by
            unfold jaRt at hrt
            split at hrt <;> first | assumption | (exfalso; omega)
          rw [hrt]
          exact W.zret hx hb (hret _ e1) (by rw [← hv]; exact pk_nc _) (fun t ht hW => ⟨⟨x, σ', rfl, hQ, by rw [ht]; exact hhp'.1, h21⟩, hS.F ht⟩) hS.2.2 hd
        · have e1 : (jaY y).2.2.2.1 = some .byte := by
            unfold jaRt at hrt
            split at hrt <;> first | assumption | (exfalso; omega)
          rw [hrt]
          exact W.zret hx hb (hret _ e1) (by rw [← hv]; exact pk_nb _) (fun t ht hW => ⟨⟨x, σ', rfl, hQ, by rw [ht]; exact hhp'.1, h21⟩, hS.F ht⟩) hS.2.2 hd
