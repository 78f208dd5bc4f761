/-! what is checked of a method's code, once, by the kernel; the sorts of cells are closed under fields and places of rows -/
def jaPc : List jaI → Nat
  | (pc, _) :: _ => pc
  | [] => 0
def jaD (cc : ByteArray) (pc : Nat) (i : Instr) (n : Nat) : Bool := match decode cc pc with
  | .ok (j, m) => decide (j = i) && Nat.beq m n
  | .error _ => false
theorem jaD_ok {cc : ByteArray} {pc n : Nat} {i : Instr} (h : jaD cc pc i n = true) : decode cc pc = .ok (i, n) := by
  unfold jaD at h
  split at h
  · rename_i j m hd
    simp only [Bool.and_eq_true, decide_eq_true_eq] at h
    rw [hd, h.1, Nat.eq_of_beq_eq_true h.2]
  · cases h
def jaDs (cc : ByteArray) (pc : Nat) (i : Instr) : Bool := match decode cc pc with
  | .ok (j, _) => decide (j = i)
  | .error _ => false
theorem jaDs_ok {cc : ByteArray} {pc : Nat} {i : Instr} (h : jaDs cc pc i = true) : ∃ n, decode cc pc = .ok (i, n) := by
  unfold jaDs at h
  split at h
  · rename_i j m hd
    exact ⟨m, by rw [hd, of_decide_eq_true h]⟩
  · cases h
def jaTg (f : List jaI) (ps : List Nat) (pc : Nat) (off : Int) (a : Nat) : Bool := decide ((pc : Int) + off = (jaPc (jaAt f ps a) : Int))
def jaObF (o a : Nat) (t : Nat × Nat × Nat) : Bool := decide ((jaN (99, []) jaOb o).2[a]? = some t)
def jaHas3 (e : Nat × Nat × Nat) (l : List (Nat × Nat × Nat)) : Bool := l.any fun q => Nat.beq q.2.1 e.2.1 && Nat.beq q.1 e.1 && Nat.beq q.2.2 e.2.2
def jaHas4 (e : Nat × Nat × Nat × Nat) (l : List (Nat × Nat × Nat × Nat)) : Bool := l.any fun q => Nat.beq q.2.1 e.2.1 && Nat.beq q.1 e.1 && Nat.beq q.2.2.1 e.2.2.1 && Nat.beq q.2.2.2 e.2.2.2
theorem jaHas3_in {e : Nat × Nat × Nat} {l : List (Nat × Nat × Nat)} (h : jaHas3 e l = true) : e ∈ l := by
  obtain ⟨q, hq, h1⟩ := List.any_eq_true.mp h
  simp only [Bool.and_eq_true] at h1
  have e1 := Nat.eq_of_beq_eq_true h1.1.1
  have e2 := Nat.eq_of_beq_eq_true h1.1.2
  have e3 := Nat.eq_of_beq_eq_true h1.2
  have : q = e := Prod.ext e2 (Prod.ext e1 e3)
  exact this ▸ hq
theorem jaHas4_in {e : Nat × Nat × Nat × Nat} {l : List (Nat × Nat × Nat × Nat)} (h : jaHas4 e l = true) : e ∈ l := by
  obtain ⟨q, hq, h1⟩ := List.any_eq_true.mp h
  simp only [Bool.and_eq_true] at h1
  have e1 := Nat.eq_of_beq_eq_true h1.1.1.1
  have e2 := Nat.eq_of_beq_eq_true h1.1.1.2
  have e3 := Nat.eq_of_beq_eq_true h1.1.2
  have e4 := Nat.eq_of_beq_eq_true h1.2
  have : q = e := Prod.ext e2 (Prod.ext e1 (Prod.ext e3 e4))
  exact this ▸ hq
def jaNpar (y n : Nat) : Bool := decide ((parseMethodDescriptor (jaY y).1.desc).map (fun d => d.parameters.length) = some n)
def jaRk (y rk : Nat) : Bool := match (jaY y).2.2.2.1, rk with
  | none, 0 => true
  | some .int, 1 => true
  | some .boolean, 1 => true
  | some .char, 1 => true
  | some .byte, 1 => true
  | some .long, 2 => true
  | _, _ => false
/-- the class of a sort -/
def jaCn (o : Nat) : String := bif Nat.beq o 100 || Nat.beq o 102 then "java/lang/String" else (jaClN (jaN (99, []) jaOb o).1).1
def jaCkV (own idx y n rk o : Nat) : Bool := Nat.blt y 303 && !(jaY y).2.2.2.2.1 && Nat.ble 1 n && jaNpar y (n - 1) && jaRk y rk && decide (jaCn o = (jaY y).1.cls) && (Nat.beq o 100 || Nat.beq o 102 || (!(jaN (99, []) jaOb o).2.isEmpty)) && Nat.ble (jaY y).2.2.1 40 &&
  (jaHas3 (own, idx, y) jaWM || (Nat.beq own 8 && Nat.beq idx 163 && decide ((jaY y).1 = ⟨"AgreedInput$Entries", "conflict", "(II)Z"⟩)))
def jaCkS (own idx y n rk : Nat) : Bool := Nat.blt y 303 && (jaY y).2.2.2.2.1 && jaNpar y n && jaRk y rk && Nat.ble (jaY y).2.2.1 40 && jaHas3 (own, idx, y) jaWM
def jaNx (is : List jaI) (n : Nat) : Bool := Nat.beq (jaPc is) n
def jaStrF (own idx a o tag o' ka : Nat) : Bool := Nat.beq own 13 && (Nat.beq o 100 || Nat.beq o 102) && ((Nat.beq idx 9 && Nat.beq tag 3 && Nat.beq o' (o + 1) && Nat.beq ka 0) || (Nat.beq idx 15 && Nat.beq tag 4 && Nat.beq ka 0))
def jaFldF (own idx a o tag o' ka : Nat) : Bool := jaObF o a (tag, o', ka) && Nat.ble tag 3 && jaHas4 (own, idx, (jaN (99, []) jaOb o).1, a) jaWF
def jaPutF (o a tag : Nat) : Bool := !((jaClN (jaN (99, []) jaOb o).1).2.1 a).2.2.2
def jaTgs (f : List jaI) (ps : List Nat) (pc : Nat) : List Int → List Nat → Bool
  | [], [] => true
  | off :: os, t :: l => jaTg f ps pc off t && jaTgs f ps pc os l
  | _, _ => false
def jaSrt : List (Int × Int) → Bool
  | a :: b :: l => decide (a.1 < b.1) && jaSrt (b :: l)
  | _ => true
/-- one instruction: own class, code, answer's sort, all of the code, its labels; behind it 'is' -/
def jaCk1 (own : Nat) (cc : ByteArray) (nL rt : Nat) (f : List jaI) (ps : List Nat) (pc : Nat) (i : Instr) (a : Nat) (l : List Nat) (is : List jaI) : Bool := match i with
  | .nop => Nat.beq (jaN 0 ps a + is.length) f.length && jaNx is pc
  | .aload_n n => jaD cc pc i 1 && jaNx is (pc + 1)
  | .iload_n n => jaD cc pc i 1 && jaNx is (pc + 1)
  | .lload_n n => jaD cc pc i 1 && jaNx is (pc + 1)
  | .aload n => jaD cc pc i 2 && jaNx is (pc + 2)
  | .iload n => jaD cc pc i 2 && jaNx is (pc + 2)
  | .lload n => jaD cc pc i 2 && jaNx is (pc + 2)
  | .astore_n n => jaD cc pc i 1 && jaNx is (pc + 1) && Nat.blt n nL
  | .istore_n n => jaD cc pc i 1 && jaNx is (pc + 1) && Nat.blt n nL
  | .lstore_n n => jaD cc pc i 1 && jaNx is (pc + 1) && Nat.blt (n + 1) nL
  | .astore n => jaD cc pc i 2 && jaNx is (pc + 2) && Nat.blt n nL
  | .istore n => jaD cc pc i 2 && jaNx is (pc + 2) && Nat.blt n nL
  | .lstore n => jaD cc pc i 2 && jaNx is (pc + 2) && Nat.blt (n + 1) nL
  | .iconst n => jaD cc pc i 1 && jaNx is (pc + 1)
  | .lconst n => jaD cc pc i 1 && jaNx is (pc + 1)
  | .bipush n => jaD cc pc i 2 && jaNx is (pc + 2)
  | .sipush n => jaD cc pc i 3 && jaNx is (pc + 3)
  | .ldc idx => jaD cc pc i 2 && jaNx is (pc + 2) && (match l with
    | [0] => jaHas3 (own, idx, a) jaWI
    | [1, o, k] => Nat.beq own 4 && ((Nat.beq idx 50 && Nat.beq o 100 && Nat.beq k 23) || (Nat.beq idx 68 && Nat.beq o 102 && Nat.beq k 24))
    | _ => true)
  | .ldc_w idx => jaD cc pc i 3 && jaNx is (pc + 3) && (match l with
    | [0] => jaHas3 (own, idx, a) jaWI
    | _ => true)
  | .ldc2_w idx => jaD cc pc i 3 && jaNx is (pc + 3) && jaHas3 (own, idx, a) jaWL
  | .iinc n v => jaD cc pc i 3 && jaNx is (pc + 3) && Nat.blt n nL
  | .iadd | .isub | .imul | .irem | .ineg | .iand | .ior | .ixor | .ishl | .ishr | .iushr | .ladd | .lsub | .lmul | .land | .lor | .lxor | .lshl | .lushr | .lcmp | .i2l | .l2i | .i2b | .i2c | .dup | .dup_x1 | .dup2 | .pop => jaD cc pc i 1 && jaNx is (pc + 1)
  | .goto off => match l with
    | [] => jaD cc pc i 3 && jaTg f ps pc off a
    | _ => true
  | .ifCond _ off => jaD cc pc i 3 && jaNx is (pc + 3) && jaTg f ps pc off a
  | .if_icmp _ off => jaD cc pc i 3 && jaNx is (pc + 3) && jaTg f ps pc off a
  | .tableswitch d lo hi os => jaDs cc pc i && jaTg f ps pc d a && jaTgs f ps pc os.toList l && decide (hi - lo + 1 = os.size) && decide (-1000 < lo) && decide (hi < 1000)
  | .lookupswitch d qs => jaDs cc pc i && jaTg f ps pc d a && jaTgs f ps pc (qs.toList.map (·.2)) l && jaSrt qs.toList && (qs.toList.all fun q => decide (-2147483648 ≤ q.1) && decide (q.1 < 2147483648)) && (qs.toList.zip (qs.toList.drop 1)).all (fun (a, next) => a.1 < next.1)
  | .getfield idx => jaD cc pc i 3 && jaNx is (pc + 3) && (match l with
    | [o, tag, o', ka] => jaFldF own idx a o tag o' ka || jaStrF own idx a o tag o' ka
    | _ => false)
  | .putfield idx => jaD cc pc i 3 && jaNx is (pc + 3) && (match l with
    | [o, tag, o', ka] => jaFldF own idx a o tag o' ka && jaPutF o a tag
    | _ => false)
  | .getstatic idx => jaD cc pc i 3 && jaNx is (pc + 3) && Nat.beq own 13 && (match l with
    | [0] => Nat.beq idx 38 && Nat.beq a 1
    | [1, o, k] => Nat.beq idx 1053 && Nat.beq o 104 && Nat.beq k 25
    | _ => false)
  | .arraylength | .iaload | .baload | .laload | .aaload | .iastore | .bastore | .lastore => jaD cc pc i 1 && jaNx is (pc + 1)
  | .invokevirtual idx => match l with
    | [n, rk, o] => jaD cc pc i 3 && jaNx is (pc + 3) && jaCkV own idx a n rk o
    | _ => true
  | .invokestatic idx => match l with
    | [n, rk] => jaD cc pc i 3 && jaNx is (pc + 3) && jaCkS own idx a n rk
    | _ => true
  | .ireturn => match a with
    | 0 => jaD cc pc i 1 && Nat.beq rt 1
    | 1 => jaD cc pc i 1 && Nat.beq rt 3
    | 2 => jaD cc pc i 1 && Nat.beq rt 4
    | 3 => jaD cc pc i 1 && Nat.beq rt 5
    | _ => true
  | .lreturn => jaD cc pc i 1 && Nat.beq rt 2
  | .return_ => jaD cc pc i 1 && Nat.beq rt 0
  | _ => true
def jaCk (own : Nat) (cc : ByteArray) (nL rt : Nat) (f : List jaI) (ps : List Nat) : List jaI → Bool
  | [] => true
  | (pc, i, a, l) :: is => jaCk1 own cc nL rt f ps pc i a l is && jaCk own cc nL rt f ps is
theorem jaCk_drop {own : Nat} {cc : ByteArray} {nL rt : Nat} {f : List jaI} {ps : List Nat} : ∀ (n : Nat) (g : List jaI), jaCk own cc nL rt f ps g = true → jaCk own cc nL rt f ps (g.drop n) = true
  | 0, g, h => by simpa using h
  | n + 1, [], h => by simpa using h
  | n + 1, (pc, i, a, l) :: g, h => by
    rw [List.drop_succ_cons]
    refine jaCk_drop n g ?_
    rw [jaCk, Bool.and_eq_true] at h
    exact h.2
/-- the sorts of things that have an address of their own beside the world -/
def jaSp : List jaR := [(96, 21, 0), (100, 23, 0), (101, 23, 0), (102, 24, 0), (103, 24, 0), (104, 25, 0)]
def jaOb_closedB : Bool := jaRefs.all fun r => (jaN (99, []) jaOb r.1).2.all fun t => !(Nat.beq t.1 3) || jaHas3 (t.2.1, r.2.1 + t.2.2, r.2.2) jaRefs
theorem jaOb_closed0 : jaOb_closedB = true := by decide +kernel
theorem jaOb_closed {r : jaR} (h : r ∈ jaRefs) {a o' ka : Nat} (ht : (jaN (99, []) jaOb r.1).2[a]? = some (3, o', ka)) : (o', r.2.1 + ka, r.2.2) ∈ jaRefs := by
  have h1 := List.all_eq_true.mp (List.all_eq_true.mp jaOb_closed0 r h) _ (List.mem_of_getElem? ht)
  exact jaHas3_in (by simpa using h1)
def jaAr_closedB : Bool := jaRefs.all fun r => match jaN (5, 0, 0, 0, false, false) jaAr r.1 with
  | (4, n, o', a, fb, fd) => (List.range n).all fun j => jaHas3 (o', r.2.1 + (a + (bif fb then j else 0)), bif fd then j else 0) jaRefs
  | _ => true
theorem jaAr_closed0 : jaAr_closedB = true := by decide +kernel
theorem jaAr_closed {r : jaR} (h : r ∈ jaRefs) {n o' a j : Nat} {fb fd : Bool} (ht : jaN (5, 0, 0, 0, false, false) jaAr r.1 = (4, n, o', a, fb, fd)) (hj : j < n) : (o', r.2.1 + (a + (bif fb then j else 0)), bif fd then j else 0) ∈ jaRefs := by
  have h1 := List.all_eq_true.mp jaAr_closed0 r h
  rw [ht] at h1
  exact jaHas3_in (List.all_eq_true.mp h1 j (List.mem_range.mpr hj))
/-- a sort is an object's or an array's; what the arrays of references hold -/
def jaRefs_sortB : Bool := jaRefs.all fun r => Nat.blt r.1 98 && !(Nat.beq r.1 96) && !(Nat.beq r.2.1 21) && (match jaN (99, []) jaOb r.1 with
  | (ci, _ :: _) => Nat.beq (jaN (5, 0, 0, 0, false, false) jaAr r.1).1 5 && Nat.blt ci 12
  | (_, []) => Nat.blt (jaN (5, 0, 0, 0, false, false) jaAr r.1).1 5 && (match jaN (5, 0, 0, 0, false, false) jaAr r.1 with
    | (4, _, o', _) => Nat.beq o' 50 || Nat.beq o' 20 || Nat.beq o' 40
    | _ => true))
theorem jaRefs_sort0 : jaRefs_sortB = true := by decide +kernel
def jaOb_tyB : Bool := (List.range 12).all fun ci => decide (jaCl[ci]? = none) || true
def jaWF_facts (e : Nat × Nat × Nat × Nat) : Bool := Nat.blt e.2.2.1 12 && Nat.blt e.2.2.2 (jaClN e.2.2.1).2.2 && decide (((jaClN e.2.2.1).2.1 e.2.2.2).1 = (jaClN e.2.2.1).1)
theorem jaWF_facts0 : jaWF.all jaWF_facts = true := by decide +kernel
/-- the fields' types by the tags -/
def jaObT : Bool := jaOb.all fun q => (q.2.zipIdx).all fun (t, a) => decide (((jaClN q.1).2.1 a).2.2.1 = "I") == Nat.beq t.1 0 && (decide (((jaClN q.1).2.1 a).2.2.1 = "J") == Nat.beq t.1 1) && (decide (((jaClN q.1).2.1 a).2.2.1 = "Z") == Nat.beq t.1 2)
theorem jaObT0 : jaObT = true := by decide +kernel
