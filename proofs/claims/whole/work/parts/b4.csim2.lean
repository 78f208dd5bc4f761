section
/-! more of its instructions -/
end
section
variable {p : Program} {l : Launch} {e : Env} {R : Room} {s : State} {m : MethodId} {args : Array Value} {below : List Frame} {meth : Method} {c : Code} {D : va_G} {dA : Nat → ClassId} {A : Nat → Prop} {cc : ByteArray} {nL own : Nat} {f : List jaI} {ps : List Nat} {Sm : Nat → Option jkZ} {c0 M N : Nat} {an0 : jaR → Nat} {Qm : State → Prop}
theorem jkS_nop {pc a sl : Nat} {lx : List Nat} {is : List jaI} {ls : List (Option jaV)} {st : List jaV} {cs : List jkC} {g' : jkG} (hx : p.tables.exec = Jvm.exec) (hb : c.code = cc) (hml : c.maxLocals = nL) (hown : s.vm.findClass (jaN "" jaOn own) = some m.cls) (hts : ∀ w ∈ lw_tbl, goodWord w = true → w.before args s = true) (hE : jkEnv D dA s) (hA : ∀ q, s.heap.size ≤ q → A q) (hM : M ≤ R.cells) (hN : N ≤ R.slots) (hsuf : ∃ n : Nat, is = f.drop n) (hc : jkCk1 own cc nL f ps pc (.nop) a lx is = true) (h : jkSt Sm c0 M N f ps ((pc, .nop, a, lx) :: is, ls, st, cs, sl) = some g') :
    (∃ n : Nat, g'.1 = f.drop n) ∧ (jkW p l e R s m args below meth c D dA A nL c0 an0 Qm g' → jkW p l e R s m args below meth c D dA A nL c0 an0 Qm ((pc, .nop, a, lx) :: is, ls, st, cs, sl)) := by
  simp only [jkCk1, Bool.and_eq_true] at hc
  have hn : jaPc is = pc := Nat.eq_of_beq_eq_true hc.2
  have e1 : jaN 0 ps a + is.length = f.length := Nat.eq_of_beq_eq_true hc.1
  have e2 : jaAt f ps a = is := by
    obtain ⟨n1, hn1⟩ := hsuf
    unfold jaAt
    rw [hn1]
    have e3 : is.length = f.length - n1 := by rw [hn1, List.length_drop]
    rcases Nat.lt_or_ge n1 f.length with q | q
    · rw [show jaN 0 ps a = n1 by omega]
    · rw [List.drop_eq_nil_of_le q, List.drop_eq_nil_of_le (by omega)]
  dsimp only [jkSt] at h
  cases h
  refine ⟨⟨_, rfl⟩, fun k an H locs lsA ha hl hP hD hS => ?_⟩
  have q := k an H locs lsA ha hl hP hD hS
  dsimp only at q
  rw [e2, hn] at q
  exact q
theorem jkS_iinc {pc a sl : Nat} {lx : List Nat} {is : List jaI} {ls : List (Option jaV)} {st : List jaV} {cs : List jkC} {g' : jkG} (hx : p.tables.exec = Jvm.exec) (hb : c.code = cc) (hml : c.maxLocals = nL) (hown : s.vm.findClass (jaN "" jaOn own) = some m.cls) (hts : ∀ w ∈ lw_tbl, goodWord w = true → w.before args s = true) (hE : jkEnv D dA s) (hA : ∀ q, s.heap.size ≤ q → A q) (hM : M ≤ R.cells) (hN : N ≤ R.slots) {n : Nat} {v : Int} (hsuf : ∃ n : Nat, is = f.drop n) (hc : jkCk1 own cc nL f ps pc (.iinc n v) a lx is = true) (h : jkSt Sm c0 M N f ps ((pc, .iinc n v, a, lx) :: is, ls, st, cs, sl) = some g') :
    (∃ n : Nat, g'.1 = f.drop n) ∧ (jkW p l e R s m args below meth c D dA A nL c0 an0 Qm g' → jkW p l e R s m args below meth c D dA A nL c0 an0 Qm ((pc, .iinc n v, a, lx) :: is, ls, st, cs, sl)) := by
  simp only [jkCk1, Bool.and_eq_true] at hc
  have hd := jaD_ok hc.1.1
  have hn : jaPc is = pc + 3 := Nat.eq_of_beq_eq_true hc.1.2
  have hi : n < nL := Nat.le_of_ble_eq_true hc.2
  dsimp only [jkSt] at h
  split at h
  · rename_i x hv
    cases h
    refine ⟨hsuf, fun k an H locs lsA ha hl hP hD hS => ?_⟩
    obtain ⟨j, hj⟩ := List.getElem?_of_mem (jaLv_mem (an := an) (sv := .null) (jaN_get hv))
    refine lv_iinc hx hb hd hl.has hj rfl hi rfl (fun ls' hl' => ?_)
    have q := k an H locs ls' ha (jaLh.set (v := .inl (x + Int32.ofInt v)) (Or.inl rfl) hl.1 hi hl') hP hD hS
    dsimp only at q
    rw [hn] at q
    exact q
  · cases h
theorem jkS_goto {pc a sl : Nat} {lx : List Nat} {is : List jaI} {ls : List (Option jaV)} {st : List jaV} {cs : List jkC} {g' : jkG} (hx : p.tables.exec = Jvm.exec) (hb : c.code = cc) (hml : c.maxLocals = nL) (hown : s.vm.findClass (jaN "" jaOn own) = some m.cls) (hts : ∀ w ∈ lw_tbl, goodWord w = true → w.before args s = true) (hE : jkEnv D dA s) (hA : ∀ q, s.heap.size ≤ q → A q) (hM : M ≤ R.cells) (hN : N ≤ R.slots) {off : Int} (hsuf : ∃ n : Nat, is = f.drop n) (hc : jkCk1 own cc nL f ps pc (.goto off) a lx is = true) (h : jkSt Sm c0 M N f ps ((pc, .goto off, a, lx) :: is, ls, st, cs, sl) = some g') :
    (∃ n : Nat, g'.1 = f.drop n) ∧ (jkW p l e R s m args below meth c D dA A nL c0 an0 Qm g' → jkW p l e R s m args below meth c D dA A nL c0 an0 Qm ((pc, .goto off, a, lx) :: is, ls, st, cs, sl)) := by
  simp only [jkCk1, Bool.and_eq_true] at hc
  have hd := jaD_ok hc.1
  have ht : (pc : Int) + off = (jaPc (jaAt f ps a) : Int) := of_decide_eq_true hc.2
  dsimp only [jkSt] at h
  cases h
  exact ⟨⟨_, rfl⟩, fun k an H locs lsA ha hl hP hD hS => lv_goto hx hb hd ht (k an H locs lsA ha hl hP hD hS)⟩
theorem jkS_if_icmp {pc a sl : Nat} {lx : List Nat} {is : List jaI} {ls : List (Option jaV)} {st : List jaV} {cs : List jkC} {g' : jkG} (hx : p.tables.exec = Jvm.exec) (hb : c.code = cc) (hml : c.maxLocals = nL) (hown : s.vm.findClass (jaN "" jaOn own) = some m.cls) (hts : ∀ w ∈ lw_tbl, goodWord w = true → w.before args s = true) (hE : jkEnv D dA s) (hA : ∀ q, s.heap.size ≤ q → A q) (hM : M ≤ R.cells) (hN : N ≤ R.slots) {cd : ClassFile.Cond} {off : Int} (hsuf : ∃ n : Nat, is = f.drop n) (hc : jkCk1 own cc nL f ps pc (.if_icmp cd off) a lx is = true) (h : jkSt Sm c0 M N f ps ((pc, .if_icmp cd off, a, lx) :: is, ls, st, cs, sl) = some g') :
    (∃ n : Nat, g'.1 = f.drop n) ∧ (jkW p l e R s m args below meth c D dA A nL c0 an0 Qm g' → jkW p l e R s m args below meth c D dA A nL c0 an0 Qm ((pc, .if_icmp cd off, a, lx) :: is, ls, st, cs, sl)) := by
  simp only [jkCk1, Bool.and_eq_true] at hc
  have hd := jaD_ok hc.1.1
  have hn : jaPc is = pc + 3 := Nat.eq_of_beq_eq_true hc.1.2
  have ht : (pc : Int) + off = (jaPc (jaAt f ps a) : Int) := of_decide_eq_true hc.2
  cases cd <;> dsimp only [jkSt] at h
  all_goals try (exact absurd h (by intro h; cases h))
  split at h
  · rename_i y x st'
    split at h
    · rename_i z
      cases h
      exact ⟨⟨_, rfl⟩, fun k an H locs lsA ha hl hP hD hS => lv_icmp_ge hx hb hd ht (fun _ => k an H locs lsA ha hl hP hD hS) (fun z2 => absurd z z2)⟩
    · rename_i z
      cases h
      refine ⟨hsuf, fun k an H locs lsA ha hl hP hD hS => lv_icmp_ge hx hb hd ht (fun z2 => absurd z2 z) (fun _ => ?_)⟩
      have q := k an H locs lsA ha hl hP hD hS
      dsimp only at q
      rw [hn] at q
      exact q
  · cases h
theorem jkS_dup {pc a sl : Nat} {lx : List Nat} {is : List jaI} {ls : List (Option jaV)} {st : List jaV} {cs : List jkC} {g' : jkG} (hx : p.tables.exec = Jvm.exec) (hb : c.code = cc) (hml : c.maxLocals = nL) (hown : s.vm.findClass (jaN "" jaOn own) = some m.cls) (hts : ∀ w ∈ lw_tbl, goodWord w = true → w.before args s = true) (hE : jkEnv D dA s) (hA : ∀ q, s.heap.size ≤ q → A q) (hM : M ≤ R.cells) (hN : N ≤ R.slots) (hsuf : ∃ n : Nat, is = f.drop n) (hc : jkCk1 own cc nL f ps pc (.dup) a lx is = true) (h : jkSt Sm c0 M N f ps ((pc, .dup, a, lx) :: is, ls, st, cs, sl) = some g') :
    (∃ n : Nat, g'.1 = f.drop n) ∧ (jkW p l e R s m args below meth c D dA A nL c0 an0 Qm g' → jkW p l e R s m args below meth c D dA A nL c0 an0 Qm ((pc, .dup, a, lx) :: is, ls, st, cs, sl)) := by
  simp only [jkCk1, Bool.and_eq_true] at hc
  have hd := jaD_ok hc.1
  have hn : jaPc is = pc + 1 := Nat.eq_of_beq_eq_true hc.2
  dsimp only [jkSt] at h
  split at h
  · rename_i r st'
    cases h
    refine ⟨hsuf, fun k an H locs lsA ha hl hP hD hS => ?_⟩
    have q := k an H locs lsA ha hl hP hD hS
    dsimp only at q
    rw [hn] at q
    exact lv_dup hx hb hd (by rw [jaTr_cat (Or.inl rfl)]; rfl) q
  · cases h
theorem jkS_ldc2_w {pc a sl : Nat} {lx : List Nat} {is : List jaI} {ls : List (Option jaV)} {st : List jaV} {cs : List jkC} {g' : jkG} (hx : p.tables.exec = Jvm.exec) (hb : c.code = cc) (hml : c.maxLocals = nL) (hown : s.vm.findClass (jaN "" jaOn own) = some m.cls) (hts : ∀ w ∈ lw_tbl, goodWord w = true → w.before args s = true) (hE : jkEnv D dA s) (hA : ∀ q, s.heap.size ≤ q → A q) (hM : M ≤ R.cells) (hN : N ≤ R.slots) {idx : Nat} (hsuf : ∃ n : Nat, is = f.drop n) (hc : jkCk1 own cc nL f ps pc (.ldc2_w idx) a lx is = true) (h : jkSt Sm c0 M N f ps ((pc, .ldc2_w idx, a, lx) :: is, ls, st, cs, sl) = some g') :
    (∃ n : Nat, g'.1 = f.drop n) ∧ (jkW p l e R s m args below meth c D dA A nL c0 an0 Qm g' → jkW p l e R s m args below meth c D dA A nL c0 an0 Qm ((pc, .ldc2_w idx, a, lx) :: is, ls, st, cs, sl)) := by
  simp only [jkCk1, Bool.and_eq_true] at hc
  have hd := jaD_ok hc.1.1
  have hn : jaPc is = pc + 3 := Nat.eq_of_beq_eq_true hc.1.2
  dsimp only [jkSt] at h
  cases h
  refine ⟨hsuf, fun k an H locs lsA ha hl hP hD hS => ?_⟩
  have q := k an H locs lsA ha hl hP hD hS
  dsimp only at q
  rw [hn] at q
  exact lv_ldc2 hx hb hown (hts _ (jaOk_in jkWL_ok _ (jaHas3_in hc.2)) rfl) hd q
end
