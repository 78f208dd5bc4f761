section
/-! what holds at a place of a constructor's run; simple instructions -/
def jkW (p : Program) (l : Launch) (e : Env) (R : Room) (s : State) (m : MethodId) (args : Array Value) (below : List Frame) (meth : Method) (c : Code) (D : va_G) (dA : Nat → ClassId) (A : Nat → Prop) (nL c0 : Nat) (an0 : jaR → Nat) (Qm : State → Prop) (g : jkG) : Prop :=
  ∀ (an : jaR → Nat) (H : Heap) (locs : List Loc) (lsA : Array Slot), (∀ r : jaR, (r.1 ≠ 200 ∨ r.2.1 < c0) → an r = an0 r) → jaLh an .null lsA nL g.2.1 → va_P D jaCl (jkWs dA an g.2.2.2.1) H → va_D A (jkWs dA an g.2.2.2.1) → va_S A s.heap H locs →
    W p l e R s m args below meth c H locs (g.2.2.2.1.length - c0) g.2.2.2.2 Qm (F0 m (jaPc g.1) lsA (g.2.2.1.map (jaTr an .null)))
end
section
variable {p : Program} {l : Launch} {e : Env} {R : Room} {s : State} {m : MethodId} {args : Array Value} {below : List Frame} {meth : Method} {c : Code} {D : va_G} {dA : Nat → ClassId} {A : Nat → Prop} {cc : ByteArray} {nL own : Nat} {f : List jaI} {ps : List Nat} {Sm : Nat → Option jkZ} {c0 M N : Nat} {an0 : jaR → Nat} {Qm : State → Prop}
theorem jkS_aload_n {pc a sl : Nat} {lx : List Nat} {is : List jaI} {ls : List (Option jaV)} {st : List jaV} {cs : List jkC} {g' : jkG} (hx : p.tables.exec = Jvm.exec) (hb : c.code = cc) (hml : c.maxLocals = nL) (hown : s.vm.findClass (jaN "" jaOn own) = some m.cls) (hts : ∀ w ∈ lw_tbl, goodWord w = true → w.before args s = true) (hE : jkEnv D dA s) (hA : ∀ q, s.heap.size ≤ q → A q) (hM : M ≤ R.cells) (hN : N ≤ R.slots) {n : Fin 4} (hsuf : ∃ n : Nat, is = f.drop n) (hc : jkCk1 own cc nL f ps pc (.aload_n n) a lx is = true) (h : jkSt Sm c0 M N f ps ((pc, .aload_n n, a, lx) :: is, ls, st, cs, sl) = some g') :
    (∃ n : Nat, g'.1 = f.drop n) ∧ (jkW p l e R s m args below meth c D dA A nL c0 an0 Qm g' → jkW p l e R s m args below meth c D dA A nL c0 an0 Qm ((pc, .aload_n n, a, lx) :: is, ls, st, cs, sl)) := by
  simp only [jkCk1, Bool.and_eq_true] at hc
  have hd := jaD_ok hc.1
  have hn : jaPc is = pc + 1 := Nat.eq_of_beq_eq_true hc.2
  dsimp only [jkSt] at h
  split at h
  · rename_i r hv
    obtain ⟨h4, rfl⟩ := jkBf h
    refine ⟨hsuf, fun k an H locs lsA ha hl hP hD hS => ?_⟩
    have q := k an H locs lsA ha hl hP hD hS
    dsimp only at q
    have hl0 := hl.2.2.2 _ _ (jaN_get hv)
    rw [hn, List.map_cons, jkTa h4] at q
    rw [jkTa h4] at hl0
    exact lv_aload_n hx hb hd rfl hl0 q
  · cases h
theorem jkS_iload_n {pc a sl : Nat} {lx : List Nat} {is : List jaI} {ls : List (Option jaV)} {st : List jaV} {cs : List jkC} {g' : jkG} (hx : p.tables.exec = Jvm.exec) (hb : c.code = cc) (hml : c.maxLocals = nL) (hown : s.vm.findClass (jaN "" jaOn own) = some m.cls) (hts : ∀ w ∈ lw_tbl, goodWord w = true → w.before args s = true) (hE : jkEnv D dA s) (hA : ∀ q, s.heap.size ≤ q → A q) (hM : M ≤ R.cells) (hN : N ≤ R.slots) {n : Fin 4} (hsuf : ∃ n : Nat, is = f.drop n) (hc : jkCk1 own cc nL f ps pc (.iload_n n) a lx is = true) (h : jkSt Sm c0 M N f ps ((pc, .iload_n n, a, lx) :: is, ls, st, cs, sl) = some g') :
    (∃ n : Nat, g'.1 = f.drop n) ∧ (jkW p l e R s m args below meth c D dA A nL c0 an0 Qm g' → jkW p l e R s m args below meth c D dA A nL c0 an0 Qm ((pc, .iload_n n, a, lx) :: is, ls, st, cs, sl)) := by
  simp only [jkCk1, Bool.and_eq_true] at hc
  have hd := jaD_ok hc.1
  have hn : jaPc is = pc + 1 := Nat.eq_of_beq_eq_true hc.2
  dsimp only [jkSt] at h
  split at h
  · rename_i r hv
    cases h
    refine ⟨hsuf, fun k an H locs lsA ha hl hP hD hS => ?_⟩
    have q := k an H locs lsA ha hl hP hD hS
    dsimp only at q
    rw [hn] at q
    exact lv_iload_n hx hb hd rfl (hl.2.2.2 _ _ (jaN_get hv)) q
  · cases h
theorem jkS_istore_n {pc a sl : Nat} {lx : List Nat} {is : List jaI} {ls : List (Option jaV)} {st : List jaV} {cs : List jkC} {g' : jkG} (hx : p.tables.exec = Jvm.exec) (hb : c.code = cc) (hml : c.maxLocals = nL) (hown : s.vm.findClass (jaN "" jaOn own) = some m.cls) (hts : ∀ w ∈ lw_tbl, goodWord w = true → w.before args s = true) (hE : jkEnv D dA s) (hA : ∀ q, s.heap.size ≤ q → A q) (hM : M ≤ R.cells) (hN : N ≤ R.slots) {n : Fin 4} (hsuf : ∃ n : Nat, is = f.drop n) (hc : jkCk1 own cc nL f ps pc (.istore_n n) a lx is = true) (h : jkSt Sm c0 M N f ps ((pc, .istore_n n, a, lx) :: is, ls, st, cs, sl) = some g') :
    (∃ n : Nat, g'.1 = f.drop n) ∧ (jkW p l e R s m args below meth c D dA A nL c0 an0 Qm g' → jkW p l e R s m args below meth c D dA A nL c0 an0 Qm ((pc, .istore_n n, a, lx) :: is, ls, st, cs, sl)) := by
  simp only [jkCk1, Bool.and_eq_true] at hc
  have hd := jaD_ok hc.1.1
  have hn : jaPc is = pc + 1 := Nat.eq_of_beq_eq_true hc.1.2
  have hi : (n : Nat) < nL := Nat.le_of_ble_eq_true hc.2
  dsimp only [jkSt] at h
  split at h
  · rename_i x st'
    cases h
    refine ⟨hsuf, fun k an H locs lsA ha hl hP hD hS => ?_⟩
    refine lv_istore_n hx hb hd rfl hl.has hi rfl (fun ls' hl' => ?_)
    have q := k an H locs ls' ha (jaLh.set (v := .inl x) (Or.inl rfl) hl.1 hi hl') hP hD hS
    dsimp only at q
    rw [hn] at q
    exact q
  · cases h
theorem jkS_istore {pc a sl : Nat} {lx : List Nat} {is : List jaI} {ls : List (Option jaV)} {st : List jaV} {cs : List jkC} {g' : jkG} (hx : p.tables.exec = Jvm.exec) (hb : c.code = cc) (hml : c.maxLocals = nL) (hown : s.vm.findClass (jaN "" jaOn own) = some m.cls) (hts : ∀ w ∈ lw_tbl, goodWord w = true → w.before args s = true) (hE : jkEnv D dA s) (hA : ∀ q, s.heap.size ≤ q → A q) (hM : M ≤ R.cells) (hN : N ≤ R.slots) {n : Nat} (hsuf : ∃ n : Nat, is = f.drop n) (hc : jkCk1 own cc nL f ps pc (.istore n) a lx is = true) (h : jkSt Sm c0 M N f ps ((pc, .istore n, a, lx) :: is, ls, st, cs, sl) = some g') :
    (∃ n : Nat, g'.1 = f.drop n) ∧ (jkW p l e R s m args below meth c D dA A nL c0 an0 Qm g' → jkW p l e R s m args below meth c D dA A nL c0 an0 Qm ((pc, .istore n, a, lx) :: is, ls, st, cs, sl)) := by
  simp only [jkCk1, Bool.and_eq_true] at hc
  have hd := jaD_ok hc.1.1
  have hn : jaPc is = pc + 2 := Nat.eq_of_beq_eq_true hc.1.2
  have hi : (n : Nat) < nL := Nat.le_of_ble_eq_true hc.2
  dsimp only [jkSt] at h
  split at h
  · rename_i x st'
    cases h
    refine ⟨hsuf, fun k an H locs lsA ha hl hP hD hS => ?_⟩
    refine lv_istore hx hb hd hl.has hi rfl (fun ls' hl' => ?_)
    have q := k an H locs ls' ha (jaLh.set (v := .inl x) (Or.inl rfl) hl.1 hi hl') hP hD hS
    dsimp only at q
    rw [hn] at q
    exact q
  · cases h
theorem jkS_astore_n {pc a sl : Nat} {lx : List Nat} {is : List jaI} {ls : List (Option jaV)} {st : List jaV} {cs : List jkC} {g' : jkG} (hx : p.tables.exec = Jvm.exec) (hb : c.code = cc) (hml : c.maxLocals = nL) (hown : s.vm.findClass (jaN "" jaOn own) = some m.cls) (hts : ∀ w ∈ lw_tbl, goodWord w = true → w.before args s = true) (hE : jkEnv D dA s) (hA : ∀ q, s.heap.size ≤ q → A q) (hM : M ≤ R.cells) (hN : N ≤ R.slots) {n : Fin 4} (hsuf : ∃ n : Nat, is = f.drop n) (hc : jkCk1 own cc nL f ps pc (.astore_n n) a lx is = true) (h : jkSt Sm c0 M N f ps ((pc, .astore_n n, a, lx) :: is, ls, st, cs, sl) = some g') :
    (∃ n : Nat, g'.1 = f.drop n) ∧ (jkW p l e R s m args below meth c D dA A nL c0 an0 Qm g' → jkW p l e R s m args below meth c D dA A nL c0 an0 Qm ((pc, .astore_n n, a, lx) :: is, ls, st, cs, sl)) := by
  simp only [jkCk1, Bool.and_eq_true] at hc
  have hd := jaD_ok hc.1.1
  have hn : jaPc is = pc + 1 := Nat.eq_of_beq_eq_true hc.1.2
  have hi : (n : Nat) < nL := Nat.le_of_ble_eq_true hc.2
  dsimp only [jkSt] at h
  split at h
  · rename_i r st'
    obtain ⟨h4, rfl⟩ := jkBf h
    refine ⟨hsuf, fun k an H locs lsA ha hl hP hD hS => ?_⟩
    dsimp only
    rw [List.map_cons, jkTa h4]
    refine lv_astore_n hx hb hd rfl hl.has hi rfl (fun ls' hl' => ?_)
    have q := k an H locs ls' ha (jaLh.set (v := .inr (.inr r)) (Or.inl rfl) hl.1 hi (by rw [jkTa h4]; exact hl')) hP hD hS
    dsimp only at q
    rw [hn] at q
    exact q
  · cases h
theorem jkS_iconst {pc a sl : Nat} {lx : List Nat} {is : List jaI} {ls : List (Option jaV)} {st : List jaV} {cs : List jkC} {g' : jkG} (hx : p.tables.exec = Jvm.exec) (hb : c.code = cc) (hml : c.maxLocals = nL) (hown : s.vm.findClass (jaN "" jaOn own) = some m.cls) (hts : ∀ w ∈ lw_tbl, goodWord w = true → w.before args s = true) (hE : jkEnv D dA s) (hA : ∀ q, s.heap.size ≤ q → A q) (hM : M ≤ R.cells) (hN : N ≤ R.slots) {n : Int} (hsuf : ∃ n : Nat, is = f.drop n) (hc : jkCk1 own cc nL f ps pc (.iconst n) a lx is = true) (h : jkSt Sm c0 M N f ps ((pc, .iconst n, a, lx) :: is, ls, st, cs, sl) = some g') :
    (∃ n : Nat, g'.1 = f.drop n) ∧ (jkW p l e R s m args below meth c D dA A nL c0 an0 Qm g' → jkW p l e R s m args below meth c D dA A nL c0 an0 Qm ((pc, .iconst n, a, lx) :: is, ls, st, cs, sl)) := by
  simp only [jkCk1, Bool.and_eq_true] at hc
  have hd := jaD_ok hc.1
  have hn : jaPc is = pc + 1 := Nat.eq_of_beq_eq_true hc.2
  dsimp only [jkSt] at h
  cases h
  refine ⟨hsuf, fun k an H locs lsA ha hl hP hD hS => ?_⟩
  have q := k an H locs lsA ha hl hP hD hS
  dsimp only at q
  rw [hn] at q
  exact lv_iconst hx hb hd rfl q
theorem jkS_bipush {pc a sl : Nat} {lx : List Nat} {is : List jaI} {ls : List (Option jaV)} {st : List jaV} {cs : List jkC} {g' : jkG} (hx : p.tables.exec = Jvm.exec) (hb : c.code = cc) (hml : c.maxLocals = nL) (hown : s.vm.findClass (jaN "" jaOn own) = some m.cls) (hts : ∀ w ∈ lw_tbl, goodWord w = true → w.before args s = true) (hE : jkEnv D dA s) (hA : ∀ q, s.heap.size ≤ q → A q) (hM : M ≤ R.cells) (hN : N ≤ R.slots) {n : Int} (hsuf : ∃ n : Nat, is = f.drop n) (hc : jkCk1 own cc nL f ps pc (.bipush n) a lx is = true) (h : jkSt Sm c0 M N f ps ((pc, .bipush n, a, lx) :: is, ls, st, cs, sl) = some g') :
    (∃ n : Nat, g'.1 = f.drop n) ∧ (jkW p l e R s m args below meth c D dA A nL c0 an0 Qm g' → jkW p l e R s m args below meth c D dA A nL c0 an0 Qm ((pc, .bipush n, a, lx) :: is, ls, st, cs, sl)) := by
  simp only [jkCk1, Bool.and_eq_true] at hc
  have hd := jaD_ok hc.1
  have hn : jaPc is = pc + 2 := Nat.eq_of_beq_eq_true hc.2
  dsimp only [jkSt] at h
  cases h
  refine ⟨hsuf, fun k an H locs lsA ha hl hP hD hS => ?_⟩
  have q := k an H locs lsA ha hl hP hD hS
  dsimp only at q
  rw [hn] at q
  exact lv_bipush hx hb hd rfl q
theorem jkS_sipush {pc a sl : Nat} {lx : List Nat} {is : List jaI} {ls : List (Option jaV)} {st : List jaV} {cs : List jkC} {g' : jkG} (hx : p.tables.exec = Jvm.exec) (hb : c.code = cc) (hml : c.maxLocals = nL) (hown : s.vm.findClass (jaN "" jaOn own) = some m.cls) (hts : ∀ w ∈ lw_tbl, goodWord w = true → w.before args s = true) (hE : jkEnv D dA s) (hA : ∀ q, s.heap.size ≤ q → A q) (hM : M ≤ R.cells) (hN : N ≤ R.slots) {n : Int} (hsuf : ∃ n : Nat, is = f.drop n) (hc : jkCk1 own cc nL f ps pc (.sipush n) a lx is = true) (h : jkSt Sm c0 M N f ps ((pc, .sipush n, a, lx) :: is, ls, st, cs, sl) = some g') :
    (∃ n : Nat, g'.1 = f.drop n) ∧ (jkW p l e R s m args below meth c D dA A nL c0 an0 Qm g' → jkW p l e R s m args below meth c D dA A nL c0 an0 Qm ((pc, .sipush n, a, lx) :: is, ls, st, cs, sl)) := by
  simp only [jkCk1, Bool.and_eq_true] at hc
  have hd := jaD_ok hc.1
  have hn : jaPc is = pc + 3 := Nat.eq_of_beq_eq_true hc.2
  dsimp only [jkSt] at h
  cases h
  refine ⟨hsuf, fun k an H locs lsA ha hl hP hD hS => ?_⟩
  have q := k an H locs lsA ha hl hP hD hS
  dsimp only at q
  rw [hn] at q
  exact lv_sipush hx hb hd rfl q
end
