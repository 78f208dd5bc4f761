section
/-! what a throw needs of the tables -/
def jxOk (w : Jvm.Cond) : Bool := w.onTables && w.keepsFace
def jxTB : List Jvm.Cond := lw_tbl.filter jxOk
abbrev jxE : String := "java/util/NoSuchElementException"
abbrev jxN : List String := ["java/lang/RuntimeException", "java/lang/Exception"]
theorem jxNw_warm {w : Jvm.Cond} {u U : State} (hw : jxOk w = true) (hW : u.WarmedH U.vm) (h : va_Nw w u) : va_Nw w U := by
  rw [jxOk, Bool.and_eq_true] at hw
  exact va_tabs hw.1 (rfl : (u.setVm U.vm).vm = U.vm) (Cond.before_shiftedFace (State.Shifted.of_warmed hW) w hw.2 h)
theorem jxNw_same {w : Jvm.Cond} {u U : State} (hw : jxOk w = true) (hv : U.vm = u.vm) (h : va_Nw w u) : va_Nw w U := by
  rw [jxOk, Bool.and_eq_true] at hw
  exact va_Nw.same hw.1 hv.symm h
def jxEnv (A : Nat → Prop) (U : State) (H : Heap) : Prop := (∀ w, w ∈ jxTB → va_Nw w U) ∧ vx_Zq Bundle.tN "UNASSIGNED_STACK" Bundle.steD A U H ∧ vx_Zq Bundle.tN "SUPPRESSED_SENTINEL" Bundle.listD A U H
theorem jxTB_ok {w : Jvm.Cond} (h : w ∈ jxTB) : w ∈ lw_tbl ∧ jxOk w = true := List.mem_filter.mp h
theorem jxEnv.moved {A : Nat → Prop} {u U : State} {H : Heap} (hW : u.WarmedH U.vm) (h : jxEnv A u H) : jxEnv A U H := ⟨fun w hw => jxNw_warm (jxTB_ok hw).2 hW (h.1 w hw), vx_Zq.moved hW.alike h.2.1, vx_Zq.moved hW.alike h.2.2⟩
theorem jxEnv.same {A : Nat → Prop} {u U : State} {H : Heap} (hv : U.vm = u.vm) (h : jxEnv A u H) : jxEnv A U H := by
  have ha : u.vm.Alike U.vm := by rw [hv]; exact Vm.Alike.refl _
  exact ⟨fun w hw => jxNw_same (jxTB_ok hw).2 hv (h.1 w hw), vx_Zq.moved ha h.2.1, vx_Zq.moved ha h.2.2⟩
theorem jxEnv.kept {A : Nat → Prop} {U : State} {H H1 : Heap} (h : jxEnv A U H) (hq : ∀ a : Nat, a < H.size → ¬ A a → H1[a]? = H[a]?) : jxEnv A U H1 := ⟨h.1, h.2.1.kept hq, h.2.2.kept hq⟩
theorem jxEnv.narrow {A B : Nat → Prop} {U : State} {H : Heap} (h : jxEnv A U H) (hAB : ∀ q, B q → A q) : jxEnv B U H := ⟨h.1, h.2.1.narrow hAB, h.2.2.narrow hAB⟩
def jxPre (D : va_G) (dA : Nat → ClassId) (an : jaR → Nat) (sv : Value) (σ : jaT) (U : State) : Prop := jaPre D dA an sv σ U ∧ jxEnv (jaA0 an) U U.heap
theorem jxPre_blind {D : va_G} {dA : Nat → ClassId} {an : jaR → Nat} {sv : Value} {σ : jaT} {as : List Value} : FrameBlind (va_Pc as (jxPre D dA an sv σ)) := by
  intro a U g mk q
  exact ⟨q.1, ⟨jaEnv.same (u := U) (U := U.calling g mk a) rfl q.2.1.1, q.2.1.2⟩, jxEnv.same (u := U) (U := U.calling g mk a) rfl q.2.2⟩
theorem jxPre_at {D : va_G} {dA : Nat → ClassId} {an : jaR → Nat} {sv : Value} {A : Nat → Prop} {σ : jaT} {s U : State} {H : Heap} {locs : List Loc} (hE : jaEnv D dA an sv A s s.heap) (hX : jxEnv A s s.heap) (hA0 : ∀ q, jaA0 an q → A q) (hhp : jaHp D dA an A σ H) (hS : va_S A s.heap H locs) (hU : U.heap = H) (hW : s.WarmedH U.vm) : jxPre D dA an sv σ U := by
  refine ⟨jaPre_at hE hA0 hhp hS hU hW, ?_⟩
  rw [hU]
  exact ((hX.kept hS.2.1).narrow hA0).moved hW
/-- the words of the throw, out of the table -/
def jxIs : List Nat := (List.range 90).map (· + 1375) ++ [154, 155, 156, 157, 164, 165]
def jxSub : List Jvm.Cond := jxIs.filterMap fun i => lw_tbl[i]?
theorem jxSub_in {w : Jvm.Cond} (h : w ∈ jxSub) : w ∈ lw_tbl := by
  obtain ⟨i, -, hi⟩ := List.mem_filterMap.mp h
  exact List.mem_of_getElem? hi
def jxAll : List Jvm.Cond := Cond.classLink "AgreedInput" 271 jxE :: Cond.initialized jxE :: vx_at0 "AgreedInput" 273 jxE jxN
set_option maxRecDepth 100000 in
theorem jxAll_in : (jxAll.all fun w => decide (w ∈ jxSub) && (jxOk w && vx_ot w)) = true := by decide +kernel
theorem jxAll_ok {w : Jvm.Cond} (h : w ∈ jxAll) : w ∈ jxTB ∧ vx_ot w = true := by
  have := List.all_eq_true.mp jxAll_in w h
  simp only [Bool.and_eq_true] at this
  exact ⟨List.mem_filter.mpr ⟨jxSub_in (of_decide_eq_true this.1), this.2.1⟩, this.2.2⟩
theorem jxFit : Bundle.fit jxE = true ∧ ∀ n ∈ jxN, Bundle.fit n = true := by decide +kernel
end
