section
/-! a constructor's whole run -/
def jkNp (f : List jaI) : Bool := f.all fun q => match q.2.1 with
  | .putfield _ => false
  | _ => true
end
section
variable {p : Program} {l : Launch} {e : Env} {R : Room} {s : State} {m : MethodId} {args : Array Value} {below : List Frame} {meth : Method} {c : Code} {D : va_G} {dA : Nat → ClassId} {A : Nat → Prop} {cc : ByteArray} {nL own : Nat} {f : List jaI} {ps : List Nat} {Sm : Nat → Option jkZ} {c0 M N : Nat} {an0 : jaR → Nat} {Qm : State → Prop}
theorem jkSt_ok (hx : p.tables.exec = Jvm.exec) (hb : c.code = cc) (hml : c.maxLocals = nL) (hown : s.vm.findClass (jaN "" jaOn own) = some m.cls) (hts : ∀ w ∈ lw_tbl, goodWord w = true → w.before args s = true) (hE : jkEnv D dA s) (hA : ∀ q, s.heap.size ≤ q → A q) (hM : M ≤ R.cells) (hN : N ≤ R.slots) (hSm : jkOkS l D dA R Sm) (hR : 1 ≤ R.frames ∧ 20 ≤ R.locals) (hck : jkCk own cc nL f ps f = true) (hin : meth.name = "<init>" ∨ jkNp f = true) {g g' : jkG} (hsuf : ∃ n : Nat, g.1 = f.drop n) (h : jkSt Sm c0 M N f ps g = some g') :
    (∃ n : Nat, g'.1 = f.drop n) ∧ (jkW p l e R s m args below meth c D dA A nL c0 an0 Qm g' → jkW p l e R s m args below meth c D dA A nL c0 an0 Qm g) := by
  obtain ⟨is, ls, st, cs, sl⟩ := g
  obtain ⟨n0, hn0⟩ := hsuf
  have hn0 : is = f.drop n0 := hn0
  have hc0 : jkCk own cc nL f ps is = true := by rw [hn0]; exact jkCk_drop n0 f hck
  cases is with
  | nil => cases h
  | cons q is =>
  obtain ⟨pc, i, a, lx⟩ := q
  rw [jkCk, Bool.and_eq_true] at hc0
  have hc := hc0.1
  have hsuf : ∃ n : Nat, is = f.drop n := ⟨n0 + 1, by rw [← List.drop_drop, ← hn0]; rfl⟩
  have hmem : (pc, i, a, lx) ∈ f := by
    have : (pc, i, a, lx) ∈ f.drop n0 := by rw [← hn0]; exact List.mem_cons_self
    exact List.mem_of_mem_drop this
  cases i with
  | nop => exact jkS_nop hx hb hml hown hts hE hA hM hN hsuf hc h
  | aload_n n => exact jkS_aload_n hx hb hml hown hts hE hA hM hN hsuf hc h
  | iload_n n => exact jkS_iload_n hx hb hml hown hts hE hA hM hN hsuf hc h
  | istore_n n => exact jkS_istore_n hx hb hml hown hts hE hA hM hN hsuf hc h
  | istore n => exact jkS_istore hx hb hml hown hts hE hA hM hN hsuf hc h
  | astore_n n => exact jkS_astore_n hx hb hml hown hts hE hA hM hN hsuf hc h
  | iconst n => exact jkS_iconst hx hb hml hown hts hE hA hM hN hsuf hc h
  | bipush n => exact jkS_bipush hx hb hml hown hts hE hA hM hN hsuf hc h
  | sipush n => exact jkS_sipush hx hb hml hown hts hE hA hM hN hsuf hc h
  | ldc2_w idx => exact jkS_ldc2_w hx hb hml hown hts hE hA hM hN hsuf hc h
  | iinc n v => exact jkS_iinc hx hb hml hown hts hE hA hM hN hsuf hc h
  | goto off => exact jkS_goto hx hb hml hown hts hE hA hM hN hsuf hc h
  | if_icmp cd off => exact jkS_if_icmp hx hb hml hown hts hE hA hM hN hsuf hc h
  | dup => exact jkS_dup hx hb hml hown hts hE hA hM hN hsuf hc h
  | new idx => exact jkS_new hx hb hml hown hts hE hA hM hN hsuf hc h
  | newarray t => exact jkS_newarray hx hb hml hown hts hE hA hM hN hsuf hc h
  | anewarray idx => exact jkS_anewarray hx hb hml hown hts hE hA hM hN hsuf hc h
  | getfield idx => exact jkS_getfield hx hb hml hown hts hE hA hM hN hsuf hc h
  | iastore => exact jkS_iastore hx hb hml hown hts hE hA hM hN hsuf hc h
  | lastore => exact jkS_lastore hx hb hml hown hts hE hA hM hN hsuf hc h
  | aastore => exact jkS_aastore hx hb hml hown hts hE hA hM hN hsuf hc h
  | iaload => exact jkS_iaload hx hb hml hown hts hE hA hM hN hsuf hc h
  | invokespecial idx => exact jkS_invokespecial hx hb hml hown hts hE hA hM hN hSm hR hsuf hc h
  | invokevirtual idx => exact jkS_invokevirtual hx hb hml hown hts hE hA hM hN hSm hsuf hc h
  | putfield idx =>
    rcases hin with hin | hin
    · exact jkS_putfield hx hb hml hown hts hE hA hM hN hin hsuf hc h
    · have := List.all_eq_true.mp hin _ hmem
      cases this
  | _ => exact absurd h (by intro h; cases h)
theorem jkRn_ok (hx : p.tables.exec = Jvm.exec) (hb : c.code = cc) (hml : c.maxLocals = nL) (hown : s.vm.findClass (jaN "" jaOn own) = some m.cls) (hts : ∀ w ∈ lw_tbl, goodWord w = true → w.before args s = true) (hE : jkEnv D dA s) (hA : ∀ q, s.heap.size ≤ q → A q) (hM : M ≤ R.cells) (hN : N ≤ R.slots) (hSm : jkOkS l D dA R Sm) (hR : 1 ≤ R.frames ∧ 20 ≤ R.locals) (hck : jkCk own cc nL f ps f = true) (hin : meth.name = "<init>" ∨ jkNp f = true) {stop : Nat} : ∀ (n : Nat) (g g' : jkG), (∃ n : Nat, g.1 = f.drop n) → jkRn Sm c0 M N f ps stop n g = some g' →
    jaPc g'.1 = stop ∧ (jkW p l e R s m args below meth c D dA A nL c0 an0 Qm g' → jkW p l e R s m args below meth c D dA A nL c0 an0 Qm g)
  | 0, _, _, _, h => by cases h
  | n + 1, g, g', hs, h => by
    rw [jkRn] at h
    cases hb9 : Nat.beq (jaPc g.1) stop with
    | true =>
      rw [hb9] at h
      cases h
      exact ⟨Nat.eq_of_beq_eq_true hb9, fun k => k⟩
    | false =>
      rw [hb9] at h
      have h : (match jkSt Sm c0 M N f ps g with | some g' => jkRn Sm c0 M N f ps stop n g' | none => none) = some g' := h
      cases hg : jkSt Sm c0 M N f ps g with
      | none => rw [hg] at h; cases h
      | some g1 =>
        rw [hg] at h
        obtain ⟨h1, h2⟩ := jkSt_ok hx hb hml hown hts hE hA hM hN hSm hR hck hin hs hg
        obtain ⟨h3, h4⟩ := jkRn_ok hx hb hml hown hts hE hA hM hN hSm hR hck hin n g1 g' h1 h
        exact ⟨h3, fun k => h2 (h4 k)⟩
end
section
theorem jkPln : ∀ y, y < 13 → plainFor (jkY y).1 = true := by decide +kernel
theorem jkRet : ∀ y, y < 13 → jaN "" jaOn (jkY y).2.2.2 = (jkY y).1.cls ∧ 1 ≤ (jkY y).2.2.1 := by decide +kernel
/-- what a run made -/
def jkGo (Sm : Nat → Option jkZ) (i0 : List jkC) (M N : Nat) (f : List jaI) (ps : List Nat) (stop nL : Nat) : Option jkG := jkRn Sm i0.length M N f ps stop 2000 (f, jaArg [jkAd 0] ++ jaPad (nL - 1), [], i0, 0)
def jkZo (i0 : List jkC) (g : Option jkG) : jkZ := match g with
  | some g => (i0, g.2.2.2.1, g.2.2.2.2)
  | none => (i0, [], 0)
def jkGd (i0 : List jkC) (M N : Nat) (g : Option jkG) : Bool := match g with
  | some g => g.2.2.1.isEmpty && (Nat.beq g.2.2.2.1.length (i0.length + M) && Nat.beq g.2.2.2.2 N)
  | none => false
theorem jkMet_of {l : Launch} {D : va_G} {dA : Nat → ClassId} {y M N stop : Nat} {i0 : List jkC} {Sm : Nat → Option jkZ} {f : List jaI} {ps : List Nat} (hy : y < 13) (hck : jkCk (jkY y).2.2.2 (jkY y).2.1 (jkY y).2.2.1 f ps f = true) (hpc : jaPc f = 0) (hnp : y ≠ 11 ∨ jkNp f = true) (hdp : 2 ≤ jkDp y)
    (hgd : jkGd i0 M N (jkGo Sm i0 M N f ps stop (jkY y).2.2.1) = true) (hSm : ∀ R : Room, jkDp y ≤ R.frames → 64 * jkDp y ≤ R.locals → jkOkS l D dA R Sm) (hst : jaD (jkY y).2.1 stop .return_ 1 = true) : jkMet l D dA y (jkZo i0 (jkGo Sm i0 M N f ps stop (jkY y).2.2.1)) := by
  cases hg : jkGo Sm i0 M N f ps stop (jkY y).2.2.1 with
  | none => rw [hg] at hgd; cases hgd
  | some g =>
  rw [hg] at hgd
  simp only [jkGd, Bool.and_eq_true] at hgd
  obtain ⟨g1, g2, g3⟩ := hgd
  have g1 : g.2.2.1 = [] := by
    cases hgl : g.2.2.1 with
    | nil => rfl
    | cons a t => rw [hgl] at g1; cases g1
  have g2 := Nat.eq_of_beq_eq_true g2
  have g3 := Nat.eq_of_beq_eq_true g3
  intro an sz
  show Met l (jkY y).1 (jkWds y) (jkRm y (i0, g.2.2.2.1, g.2.2.2.2)) (va_Pc [.ref (an (200, 0, 0))] (jkPre D dA sz an i0)) (jkQv D dA an sz (i0, g.2.2.2.1, g.2.2.2.2)) (g.2.2.2.1.length - i0.length) g.2.2.2.2 (va_A (jkWs dA an i0) sz)
  refine jaOfW (cc := (jkY y).2.1) (maxL := (jkY y).2.2.1) (ret := none) (jkPln y hy) rfl ?_
  intro p e s m args below meth c s₁ B hml hv
  obtain ⟨rfl, rfl, hP, hE, hD0⟩ := hv
  have hx := B.exec
  have hb := B.bytes
  have hr := B.returns
  have hts0 := atoms_spec (ws := jkWds y) B.pre
  have hts : ∀ w ∈ lw_tbl, goodWord w = true → w.before (([.ref (an (200, 0, 0))] : List Value)).toArray s = true := fun w hw hg => hts0 w (List.mem_cons_of_mem _ (jaTB_in hw hg))
  have hown : s.vm.findClass (jaN "" jaOn (jkY y).2.2.2) = some m.cls := by
    rw [(jkRet y hy).1]
    exact findClass_of_methodNamed B.named
  have hlocks := B.notSynchronized
  have hnm : y ≠ 11 → meth.name = "<init>" := fun h => ((name_of_methodNamed B.named B.method).1).trans ((jkY_mh y hy).2.2.2.2 h)
  have hlA : (lg_sl ([.ref (an (200, 0, 0))] : List Value)).length ≤ (jkY y).2.2.1 := (jkRet y hy).2
  have hl1 := lv_entry ([.ref (an (200, 0, 0))] : List Value) (n := (jkY y).2.2.1) hlA
  rw [lg_entry_eq]
  generalize (lg_sl ([.ref (an (200, 0, 0))] : List Value) ++ List.replicate ((jkY y).2.2.1 - (lg_sl ([.ref (an (200, 0, 0))] : List Value)).length) Slot.unset).toArray = ls at hl1 ⊢
  have hlh : jaLh an .null ls (jkY y).2.2.1 (jaArg [jkAd 0] ++ jaPad ((jkY y).2.2.1 - 1)) := by
    refine ⟨?_, hl1.1, hl1.2.1, fun i v hi => ?_⟩
    · rw [List.length_append, jaPad_len]
      show 1 + _ = _
      have := (jkRet y hy).2
      omega
    · by_cases hi2 : i < (jaArg [jkAd 0]).length
      · rw [List.getElem?_append_left hi2] at hi
        have q := jaArg_at (an := an) (sv := .null) (Or.inl rfl) [jkAd 0] 0 i v hi
        rw [Nat.zero_add] at q
        exact hl1.2.2 _ q
      · rw [List.getElem?_append_right (by omega)] at hi
        exact absurd hi (jaPad_at _ _ _)
  have hA : ∀ q, s.heap.size ≤ q → va_A (jkWs dA an i0) s.heap.size q := fun q h => Or.inr h
  have hSm' := hSm (headSpec (jkWds y) (jkRm y (i0, g.2.2.2.1, g.2.2.2.2))).room (Nat.le_refl _) (Nat.le_refl _)
  have K := (jkRn_ok (p := p) (l := l) (e := e) (R := (headSpec (jkWds y) (jkRm y (i0, g.2.2.2.1, g.2.2.2.2))).room) (s := s) (m := m) (args := (([.ref (an (200, 0, 0))] : List Value)).toArray) (below := below) (meth := meth) (c := c) (D := D) (dA := dA) (A := va_A (jkWs dA an i0) s.heap.size) (M := M) (N := N) (an0 := an)
    (Qm := MQ below (jkQv D dA an s.heap.size (i0, g.2.2.2.1, g.2.2.2.2)) (([.ref (an (200, 0, 0))] : List Value)).toArray s (g.2.2.2.1.length - i0.length) g.2.2.2.2 (va_A (jkWs dA an i0) s.heap.size))
    hx hb hml hown hts hE hA (by show M ≤ g.2.2.2.1.length - i0.length; omega) (by show N ≤ g.2.2.2.2; omega) hSm' ⟨by show 1 ≤ jkDp y; omega, by show 20 ≤ 64 * jkDp y; omega⟩ hck (hnp.imp hnm id) 2000 (f, jaArg [jkAd 0] ++ jaPad ((jkY y).2.2.1 - 1), [], i0, 0) g ⟨0, rfl⟩ hg)
  obtain ⟨K1, K2⟩ := K
  have q9 := K2 (fun an1 H locs lsA ha hlh hP hD hS => ?_) an s.heap [] ls (fun _ _ => rfl) hlh hP hD0.self va_S.rf
  · have q9 : W p l e (headSpec (jkWds y) (jkRm y (i0, g.2.2.2.1, g.2.2.2.2))).room s m (([.ref (an (200, 0, 0))] : List Value)).toArray below meth c s.heap [] (i0.length - i0.length) 0 (MQ below (jkQv D dA an s.heap.size (i0, g.2.2.2.1, g.2.2.2.2)) (([.ref (an (200, 0, 0))] : List Value)).toArray s (g.2.2.2.1.length - i0.length) g.2.2.2.2 (va_A (jkWs dA an i0) s.heap.size)) (F0 m (jaPc f) ls []) := q9
    rw [Nat.sub_self, hpc] at q9
    exact q9
  · rw [K1, g1]
    exact W.vret hx hb hr (fun t ht hW => ⟨⟨an1, rfl, ha, by rw [ht]; exact hP, hD⟩, hS.F ht⟩) hS.2.2 (jaD_ok hst)
end
