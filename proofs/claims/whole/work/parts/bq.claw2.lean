section
set_option maxRecDepth 20000 in
theorem jlCk : jaCk 12 code 7 3 jf_L_law jp_L_law jf_L_law = true := by
  have h10 : jaCk 12 code 7 3 jf_L_law jp_L_law (jf_L_law.drop 800) = true := jaCkN_next (k := 800) jlCk_10 jlCk_e
  have h9 : jaCk 12 code 7 3 jf_L_law jp_L_law (jf_L_law.drop 720) = true := jaCkN_next (k := 720) jlCk_9 h10
  have h8 : jaCk 12 code 7 3 jf_L_law jp_L_law (jf_L_law.drop 640) = true := jaCkN_next (k := 640) jlCk_8 h9
  have h7 : jaCk 12 code 7 3 jf_L_law jp_L_law (jf_L_law.drop 560) = true := jaCkN_next (k := 560) jlCk_7 h8
  have h6 : jaCk 12 code 7 3 jf_L_law jp_L_law (jf_L_law.drop 480) = true := jaCkN_next (k := 480) jlCk_6 h7
  have h5 : jaCk 12 code 7 3 jf_L_law jp_L_law (jf_L_law.drop 400) = true := jaCkN_next (k := 400) jlCk_5 h6
  have h4 : jaCk 12 code 7 3 jf_L_law jp_L_law (jf_L_law.drop 320) = true := jaCkN_next (k := 320) jlCk_4 h5
  have h3 : jaCk 12 code 7 3 jf_L_law jp_L_law (jf_L_law.drop 240) = true := jaCkN_next (k := 240) jlCk_3 h4
  have h2 : jaCk 12 code 7 3 jf_L_law jp_L_law (jf_L_law.drop 160) = true := jaCkN_next (k := 160) jlCk_2 h3
  have h1 : jaCk 12 code 7 3 jf_L_law jp_L_law (jf_L_law.drop 80) = true := jaCkN_next (k := 80) jlCk_1 h2
  have h0 : jaCk 12 code 7 3 jf_L_law jp_L_law (jf_L_law.drop 0) = true := jaCkN_next (k := 0) jlCk_0 h1
  rw [List.drop_zero] at h0
  exact h0
theorem jaN_set {α : Type} {d x : α} : ∀ (l : List α) (k o : Nat), o ≠ k → jaN d (l.set k x) o = jaN d l o
  | [], _, _, _ => rfl
  | a :: l, 0, 0, h => absurd rfl h
  | a :: l, 0, o + 1, _ => rfl
  | a :: l, k + 1, 0, _ => rfl
  | a :: l, k + 1, o + 1, h => jaN_set l k o (fun e => h (by rw [e]))
abbrev jlA (s : State) : Nat → Prop := fun q => s.heap.size ≤ q
abbrev jlP (p : Program) (l : Launch) (e : Env) (s : State) (m : MethodId) (below : List Frame) (meth : Method) (c : Code) (b : Nat) (D : va_G) (dA : Nat → ClassId) (an : jaR → Nat) (sv : Value) (S21 : jaS) (j : Nat) : jaX :=
  jaSim p l e room_1 s m #[Value.ref b] below meth c D dA an sv (jlA s) 7 jf_L_law S21 (585 + j) (53119 + 6 * j) (lw_Z below #[Value.ref b] s)
set_option maxHeartbeats 2000000 in
theorem jl_closed {p : Program} {l : Launch} {e : Env} {s : State} {m : MethodId} {below : List Frame} {meth : Method} {c : Code} {b L : Nat} {D : va_G} {dA : Nat → ClassId} {an : jaR → Nat} {sv : Value} {S21 : jaS}
    (hx : p.tables.exec = Jvm.exec) (hb : c.code = code) (hr : meth.sig.returnType = ret) (hml : c.maxLocals = 7) (hown : s.vm.findClass "AgreedInputLaw" = some m.cls) (hts : ∀ w ∈ lw_tbl, w.before #[Value.ref b] s = true) (hlk : meth.locks = false)
    (hE : jaEnv D dA an sv (jlA s) s s.heap) (hs : sv = .null ∨ ∃ a, sv = .ref a) (hX : va_X (an (96, 21, 0)) L (fun j => S21.1 96 0 j) s s.heap) (hbl : an (96, 21, 0) < s.heap.size) (hA0 : ∀ q, jaA0 an q → s.heap.size ≤ q) {j : Nat} (hj : j ≤ 600) : jlC L S21 (jlP p l e s m below meth c b D dA an sv S21 j) := by
  refine ⟨?_, fun is ls st σ h h1 h2 h3 h4 => h h4 h1 h2 h3 h4⟩
  refine jaSim_step (own := 12) (d := 33) (rt := 3) hx hb hml hown (fun w hw _ => hts w hw) hE hs jlCk (fun o ho => jaN_set jaAr 96 o ho) (Or.inr ⟨L, _, rfl, hX, fun z => absurd z (Nat.not_le.mpr hbl)⟩)
    (fun y' as' σ' Q' hy' hv' h' => jaCall_met l D dA an sv hs 33 y' as' σ' Q' hy' hv' h') hA0 (by show (33 : Nat) + 1 ≤ 2048; decide) (by show 64 * (33 + 1) ≤ 84000; decide) (by show 585 + j ≤ 601024; omega) (by show 53119 + 6 * j ≤ 7293034; omega) ?_ (fun _ _ _ _ h => h)
  intro r τ H locs pc lsA hQ h21 hhp' hS hcase
  rcases hcase with ⟨hrt, -, -⟩ | ⟨hrt, -, -⟩ | ⟨⟨x, rfl, hrt⟩, hd9⟩
  · exact absurd hrt (by decide)
  · exact absurd hrt (by decide)
  · have hx1 : x = 1 := by
      have : (some (.inl x) : Option jaV) = some (.inl 1) := hQ
      exact Sum.inl.inj (Option.some.inj this)
    subst hx1
    exact W.widen (show 585 + j ≤ 601024 by omega) (show 53119 + 6 * j ≤ 7293034 by omega) (va_forget (fun q hq => hS.2.2 q hq) (lw_ret hx hb hr hlk hd9))
set_option maxHeartbeats 2000000 in
theorem jl_wrap {p : Program} {l : Launch} {e : Env} {s : State} {m : MethodId} {below : List Frame} {meth : Method} {c : Code} {b : Nat} {D : va_G} {dA : Nat → ClassId} {an : jaR → Nat} {sv : Value} {S21 : jaS}
    (hx : p.tables.exec = Jvm.exec) (hb : c.code = code) (hml : c.maxLocals = 7) (hown : s.vm.findClass "AgreedInputLaw" = some m.cls) (hts : ∀ w ∈ lw_tbl, w.before #[Value.ref b] s = true)
    (hE : jaEnv D dA an sv (jlA s) s s.heap) (hs : sv = .null ∨ ∃ a, sv = .ref a) (hXn : jxEnv (jlA s) s s.heap) (hA0 : ∀ q, jaA0 an q → s.heap.size ≤ q)
    {y : MethodName} {cc : ByteArray} {nL pe ph site d : Nat} {as : List jaV} {τ : jaT} {J : Int32 → Prop}
    (hM : Met l y (.codeWith y cc nL (some .int) [(0, pe, ph, 13)] :: jaTB) jxRl (va_Pc (as.map (jaTr an sv)) (jxPre D dA an sv τ)) (jaQc D dA an 1 (τ 21) (jxW τ J)) 1 6 (jaA0 an))
    (hw : ∀ w ∈ va_wsS "AgreedInputLaw" site y [.codeWith y cc nL (some .int) [(0, pe, ph, 13)]], w ∈ lw_tbl ∧ goodWord w = true)
    (hyd : y.cls ≠ "java/lang/invoke/MethodHandle" ∧ y.cls ≠ "java/lang/invoke/VarHandle" ∧ (parseMethodDescriptor y.desc).map (fun d => d.parameters.length) = some as.length) (hnl : nL ≤ 40)
    (hd : decode code (jaPc (jf_L_law.drop d)) = .ok (.invokestatic site, 3)) (hpc : jaPc (jf_L_law.drop (d + 1)) = jaPc (jf_L_law.drop d) + 3)
    {j : Nat} (hj : j < 600) {LS : List (Option jaV)}
    (hq : ∀ r u, jxW τ J (some (.inl r)) u → jlP p l e s m below meth c b D dA an sv S21 (j + 1) (jf_L_law.drop (d + 1)) LS [.inl r] u) : jlP p l e s m below meth c b D dA an sv S21 j (jf_L_law.drop d) LS as.reverse τ := by
  intro _ hvl hvs h21 H locs lsA hlh hhp hS
  have hTB : ∀ w ∈ jaTB, w.before #[Value.ref b] s = true := fun w hw => hts w (List.mem_filter.mp hw).1
  have hT : GoodIn jaTB (va_wsS "AgreedInputLaw" site y (.codeWith y cc nL (some .int) [(0, pe, ph, 13)] :: jaTB)) := by
    intro w hw1
    unfold va_wsS at hw1 hw
    rcases List.mem_append.mp hw1 with hw1 | hw1
    · have := hw w (List.mem_append_left _ hw1)
      exact ⟨jaTB_in this.1 this.2, good_of_word this.2⟩
    · rcases List.mem_cons.mp hw1 with rfl | hw1
      · have := hw _ (List.mem_append_right _ List.mem_cons_self)
        exact ⟨jaTB_in this.1 this.2, good_of_word this.2⟩
      · exact ⟨hw1, good_of_word (List.mem_filter.mp hw1).2⟩
  have cw := vx_cwSW (R := room_1) (s := s) (args := #[Value.ref b]) (own := "AgreedInputLaw") (index := site) (maxL := nL) (mc := 1) (ms := 6) (rm := jxRl) as.length hTB hT rfl rfl rfl hyd ⟨by show (34 : Nat) + 1 ≤ 2048; decide, by show 8 + (nL + 11) + 64 * 34 ≤ 84000; omega⟩
  have hPS : PreS s H (va_Pc (as.map (jaTr an sv)) (jxPre D dA an sv τ)) (as.map (jaTr an sv)) := ⟨jxPre_blind, fun U hU hW => ⟨rfl, jxPre_at hE hXn hA0 hhp hS hU hW⟩⟩
  have hstk : (F0 m (jaPc (jf_L_law.drop d)) lsA (as.reverse.map (jaTr an sv))).stack = (as.map (jaTr an sv)).reverse ++ [] := by
    show as.reverse.map (jaTr an sv) = _
    rw [List.map_reverse, List.append_nil]
  have hrun : va_Run p l e room_1 s m #[Value.ref b] below meth c H locs (585 + j) (53119 + 6 * j) 1 6 (F0 m (jaPc (jf_L_law.drop d)) lsA (as.reverse.map (jaTr an sv))) []
      (va_Qi (S := jaT) (fun r u => jxW τ J (some (.inl r)) u) (fun u t => va_P D jaCl (jaWs dA an u) t.heap ∧ u 21 = τ 21) (jaA0 an) (as.map (jaTr an sv)).toArray) (jaA0 an) :=
    vx_runSW (As := as.map (jaTr an sv)) ⟨hx, hb, hml, hown, hTB⟩ hM cw hPS rfl (by rw [List.length_map]) hlh.2.1 hstk (by show 2 * 0 + 0 ≤ 8; decide) hd ⟨by show 585 + j + 1 ≤ 601024; omega, by show 53119 + 6 * j + 6 ≤ 7293034; omega⟩
  refine va_calli hrun hS (fun q _ h => hA0 q h) hA0 (fun r u t H1 locs1 ht hvm hp hB hz hk hS1 => ?_)
  have q := hq r u hp ⟨d + 1, rfl⟩ hvl ⟨trivial, trivial⟩ (hB.2.trans h21) H1 locs1 lsA hlh ⟨by rw [← ht]; exact hB.1, jaHp.addr hhp.2⟩ hS1
  rw [hpc] at q
  exact q
end
