/-! a pure machine: values (int, long, a cell by its sort, its number, its copy), stores (of each number its ints and its longs), instructions with their resolved operands -/
abbrev jaR : Type := Nat × Nat × Nat
abbrev jaV : Type := Int32 ⊕ (Int64 ⊕ jaR)
abbrev jaS : Type := (Nat → Nat → Nat → Int32) × (Nat → Nat → Nat → Int64)
abbrev jaT : Type := Nat → jaS
/-- pc, instruction, an operand, operands -/
abbrev jaI : Type := Nat × Instr × Nat × List Nat
abbrev jaQ : Type := Option jaV → jaT → Prop
abbrev jaX : Type := List jaI → List (Option jaV) → List jaV → jaT → Prop
abbrev jaG : Type := Nat → List jaV → jaT → jaQ → Prop
def jaN {α : Type} (d : α) : List α → Nat → α
  | [], _ => d
  | a :: _, 0 => a
  | _ :: l, n + 1 => jaN d l n
def jaIn (a : Nat) : List Nat → Bool
  | [] => false
  | b :: l => bif Nat.beq a b then true else jaIn a l
/-- writing: the store, a slice's int, a slice's long -/
def jaU (σ : jaT) (k : Nat) (S : jaS) : jaT := fun q => if q = k then S else σ q
def jaUI (S : jaS) (o c j : Nat) (v : Int32) : jaS := (fun o' c' j' => if o' = o ∧ c' = c ∧ j' = j then v else S.1 o' c' j', S.2)
def jaUL (S : jaS) (o c j : Nat) (v : Int64) : jaS := (S.1, fun o' c' j' => if o' = o ∧ c' = c ∧ j' = j then v else S.2 o' c' j')
/-- the place of an index -/
def jaIx (x : Int32) : Nat := x.toNatClampNeg
/-- arrays by their sorts: tag (0 int, 1 long, 2 boolean, 3 byte, 4 references, else none), length, and of references: their sort, the number's step, does the index count for the number, for the copy -/
abbrev jaA : Type := Nat × Nat × Nat × Nat × Bool × Bool
/-- what a callee's answer goes to -/
def jaKi (k : Int32 → jaT → Prop) : jaQ := fun r σ => match r with
  | some (.inl x) => k x σ
  | _ => False
def jaKl (k : Int64 → jaT → Prop) : jaQ := fun r σ => match r with
  | some (.inr (.inl x)) => k x σ
  | _ => False
def jaKv (k : jaT → Prop) : jaQ := fun r σ => match r with
  | none => k σ
  | _ => False
/-- the locals -/
def jaDl (u : Option jaV) : Option jaV := match u with
  | some (.inr (.inl _)) => none
  | u => u
def jaSet : List (Option jaV) → Nat → jaV → List (Option jaV)
  | [], _, _ => []
  | _ :: t, 0, v => some v :: t
  | a :: _ :: t, 1, v => jaDl a :: some v :: t
  | [_], 1, _ => []
  | a :: t, n + 2, v => a :: jaSet t (n + 1) v
def jaSetL : List (Option jaV) → Nat → Int64 → List (Option jaV)
  | _ :: _ :: t, 0, v => some (.inr (.inl v)) :: none :: t
  | a :: _ :: _ :: t, 1, v => jaDl a :: some (.inr (.inl v)) :: none :: t
  | a :: t, n + 2, v => a :: jaSetL t (n + 1) v
  | _, _, _ => []
def jaB2 (f : Int32 → Int32 → Int32) (K : List jaV → Prop) : List jaV → Prop
  | .inl y :: .inl x :: st => K (.inl (f x y) :: st)
  | _ => False
def jaB1 (f : Int32 → Int32) (K : List jaV → Prop) : List jaV → Prop
  | .inl x :: st => K (.inl (f x) :: st)
  | _ => False
def jaL2 (f : Int64 → Int64 → Int64) (K : List jaV → Prop) : List jaV → Prop
  | .inr (.inl y) :: .inr (.inl x) :: st => K (.inr (.inl (f x y)) :: st)
  | _ => False
def jaLd (ls : List (Option jaV)) (n : Nat) (K : jaV → Prop) : Prop := match jaN none ls n with
  | some v => K v
  | none => False
def jaLi (K : Int32 → Prop) : jaV → Prop
  | .inl x => K x
  | _ => False
def jaLl (K : Int64 → Prop) : jaV → Prop
  | .inr (.inl x) => K x
  | _ => False
def jaLr (K : jaR → Prop) : jaV → Prop
  | .inr (.inr x) => K x
  | _ => False
def jaPop (K : jaV → List jaV → Prop) : List jaV → Prop
  | v :: st => K v st
  | _ => False
def jaIf (cd : ClassFile.Cond) (x y : Int32) (A B : Prop) : Prop := match cd with
  | .eq => (x = y → A) ∧ (¬ x = y → B)
  | .ne => (¬ x = y → A) ∧ (x = y → B)
  | .lt => (x < y → A) ∧ (¬ x < y → B)
  | .ge => (y ≤ x → A) ∧ (¬ y ≤ x → B)
  | .gt => (y < x → A) ∧ (¬ y < x → B)
  | .le => (x ≤ y → A) ∧ (¬ x ≤ y → B)
/-- a switch: the labels of v, v + 1, .. -/
def jaSw (x : Int32) (J : Nat → Prop) : Int → List Nat → Prop
  | _, [] => True
  | v, t :: l => (x = Int32.ofInt v → J t) ∧ jaSw x J (v + 1) l
def jaLk (x : Int32) (J : Nat → Prop) : List (Int × Int) → List Nat → Prop
  | (v, _) :: ps, t :: l => (x = Int32.ofInt v → J t) ∧ jaLk x J ps l
  | _, _ => True
def jaNo (x : Int32) : List (Int × Int) → Prop
  | (v, _) :: ps => ¬ x = Int32.ofInt v ∧ jaNo x ps
  | [] => True
/-- the bytes of the two texts that are constants -/
def jaStr : List (List Nat) := [[59, 60, 61, 62, 43, 45, 40, 41, 46], [115, 105, 116, 101, 32, 107, 101, 121, 32, 99, 111, 112, 121, 32, 102, 105, 114, 115, 116, 32, 108, 97, 115, 116, 32, 101, 112, 111, 99, 104, 32, 108, 105, 110, 107, 32, 110, 101, 101, 100, 32, 97, 116, 32, 112, 117, 116, 32, 99, 104, 101, 99, 107, 32, 99, 114, 97, 115, 104, 32, 116, 105, 99, 107, 32, 111, 114, 32, 97, 110, 100, 32, 110, 111, 116, 32, 119, 97, 105, 116, 105, 110, 103, 32, 103, 111, 105, 110, 103, 32, 100, 111, 110, 101, 32, 114, 101, 116, 114, 105, 101, 100, 32, 115, 116, 111, 112, 112, 101, 100, 32, 114, 101, 97, 100, 121, 32, 119, 105, 100, 101, 32, 114, 101, 97, 100, 115, 32, 119, 114, 105, 116, 101, 115, 32, 102, 114, 111, 109, 32, 112, 108, 97, 99, 101, 32, 116, 114, 105, 101, 115, 32, 116, 114, 97, 110, 115, 32]]
/-- the first argument is of a sort -/
def jaRecv (o : Nat) : List jaV → Bool
  | .inr (.inr (q, _, _)) :: _ => Nat.beq q o
  | _ => false
def jaCat : List jaV → Nat
  | [] => 0
  | .inl _ :: l => 1 + jaCat l
  | .inr (.inl _) :: l => 2 + jaCat l
  | .inr (.inr _) :: l => 1 + jaCat l
/-- one step: K goes on behind the instruction, J at a label, X leaves the machine -/
def jaStep (Ar : List jaA) (Γ : jaG) (Q : jaQ) (X K : jaX) (J : Nat → List (Option jaV) → List jaV → jaT → Prop) : jaX
  | [], _, _, _ => False
  | (pc, i, a, l) :: is, ls, st, σ => match i with
    | .nop => J a ls st σ
    | .aload_n n => jaLd ls n (jaLr fun r => bif Nat.beq r.1 104 then False else K is ls (.inr (.inr r) :: st) σ)
    | .aload n => jaLd ls n (jaLr fun r => bif Nat.beq r.1 104 then False else K is ls (.inr (.inr r) :: st) σ)
    | .iload_n n => jaLd ls n (jaLi fun x => K is ls (.inl x :: st) σ)
    | .iload n => jaLd ls n (jaLi fun x => K is ls (.inl x :: st) σ)
    | .lload_n n => jaLd ls n (jaLl fun x => K is ls (.inr (.inl x) :: st) σ)
    | .lload n => jaLd ls n (jaLl fun x => K is ls (.inr (.inl x) :: st) σ)
    | .istore_n n => jaPop (fun v st => jaLi (fun x => K is (jaSet ls n (.inl x)) st σ) v) st
    | .istore n => jaPop (fun v st => jaLi (fun x => K is (jaSet ls n (.inl x)) st σ) v) st
    | .astore_n n => jaPop (fun v st => jaLr (fun x => bif Nat.beq x.1 104 then False else K is (jaSet ls n (.inr (.inr x))) st σ) v) st
    | .astore n => jaPop (fun v st => jaLr (fun x => bif Nat.beq x.1 104 then False else K is (jaSet ls n (.inr (.inr x))) st σ) v) st
    | .lstore_n n => jaPop (fun v st => jaLl (fun x => K is (jaSetL ls n x) st σ) v) st
    | .lstore n => jaPop (fun v st => jaLl (fun x => K is (jaSetL ls n x) st σ) v) st
    | .iconst n => K is ls (.inl (Int32.ofInt n) :: st) σ
    | .bipush n => K is ls (.inl (Int8.ofInt n).toInt32 :: st) σ
    | .sipush n => K is ls (.inl (Int16.ofInt n).toInt32 :: st) σ
    | .lconst n => K is ls (.inr (.inl (Int64.ofNat (n : Nat))) :: st) σ
    | .ldc _ => match l with
      | [0] => K is ls (.inl (Int32.ofNat a) :: st) σ
      | [1, o, k] => K is ls (.inr (.inr (o, k, 0)) :: st) σ
      | _ => X ((pc, i, a, l) :: is) ls st σ
    | .ldc_w _ => match l with
      | [0] => K is ls (.inl (Int32.ofNat a) :: st) σ
      | _ => X ((pc, i, a, l) :: is) ls st σ
    | .ldc2_w _ => K is ls (.inr (.inl (Int64.ofNat a)) :: st) σ
    | .iinc n v => jaLd ls n (jaLi fun x => K is (jaSet ls n (.inl (x + Int32.ofInt v))) st σ)
    | .iadd => jaB2 (fun x y => x + y) (fun st => K is ls st σ) st
    | .isub => jaB2 (fun x y => x - y) (fun st => K is ls st σ) st
    | .imul => jaB2 (fun x y => x * y) (fun st => K is ls st σ) st
    | .irem => jaPop (fun v st => jaLi (fun y => ¬ y = 0 ∧ jaB1 (fun x => x - x / y * y) (fun st => K is ls st σ) st) v) st
    | .ineg => jaB1 (fun x => -x) (fun st => K is ls st σ) st
    | .iand => jaB2 (fun x y => x &&& y) (fun st => K is ls st σ) st
    | .ior => jaB2 (fun x y => x ||| y) (fun st => K is ls st σ) st
    | .ixor => jaB2 (fun x y => x ^^^ y) (fun st => K is ls st σ) st
    | .ishl => jaB2 (fun x y => x <<< (y &&& 31)) (fun st => K is ls st σ) st
    | .ishr => jaB2 (fun x y => x >>> (y &&& 31)) (fun st => K is ls st σ) st
    | .iushr => jaB2 (fun x y => (x.toUInt32 >>> (y.toUInt32 &&& Int32.toUInt32 31)).toInt32) (fun st => K is ls st σ) st
    | .ladd => jaL2 (fun x y => x + y) (fun st => K is ls st σ) st
    | .lsub => jaL2 (fun x y => x - y) (fun st => K is ls st σ) st
    | .lmul => jaL2 (fun x y => x * y) (fun st => K is ls st σ) st
    | .land => jaL2 (fun x y => x &&& y) (fun st => K is ls st σ) st
    | .lor => jaL2 (fun x y => x ||| y) (fun st => K is ls st σ) st
    | .lxor => jaL2 (fun x y => x ^^^ y) (fun st => K is ls st σ) st
    | .lshl => jaPop (fun v st => jaLi (fun y => jaPop (fun v st => jaLl (fun x => K is ls (.inr (.inl (x <<< (y.toInt64 &&& 63))) :: st) σ) v) st) v) st
    | .lushr => jaPop (fun v st => jaLi (fun y => jaPop (fun v st => jaLl (fun x => K is ls (.inr (.inl (x.toUInt64 >>> (y.toInt64.toUInt64 &&& Int64.toUInt64 63)).toInt64) :: st) σ) v) st) v) st
    | .lcmp => jaPop (fun v st => jaLl (fun y => jaPop (fun v st => jaLl (fun x => K is ls (.inl (lg_cmp x y) :: st) σ) v) st) v) st
    | .i2l => jaPop (fun v st => jaLi (fun x => K is ls (.inr (.inl x.toInt64) :: st) σ) v) st
    | .l2i => jaPop (fun v st => jaLl (fun x => K is ls (.inl x.toInt32 :: st) σ) v) st
    | .i2b => jaB1 (fun x => x.toInt8.toInt32) (fun st => K is ls st σ) st
    | .i2c => jaB1 (fun x => (x.toUInt32 % 65536).toInt32) (fun st => K is ls st σ) st
    | .dup => match st with
      | .inl x :: st => K is ls (.inl x :: .inl x :: st) σ
      | .inr (.inr x) :: st => K is ls (.inr (.inr x) :: .inr (.inr x) :: st) σ
      | _ => False
    | .dup_x1 => match st with
      | .inl x :: .inr (.inr y) :: st => K is ls (.inl x :: .inr (.inr y) :: .inl x :: st) σ
      | _ => False
    | .dup2 => match st with
      | .inl x :: .inr (.inr y) :: st => K is ls (.inl x :: .inr (.inr y) :: .inl x :: .inr (.inr y) :: st) σ
      | _ => False
    | .pop => match st with
      | .inl _ :: st => K is ls st σ
      | _ => False
    | .goto _ => match l with
      | [] => J a ls st σ
      | _ => X ((pc, i, a, l) :: is) ls st σ
    | .ifCond cd _ => jaPop (fun v st => jaLi (fun x => jaIf cd x 0 (J a ls st σ) (K is ls st σ)) v) st
    | .if_icmp cd _ => jaPop (fun v st => jaLi (fun y => jaPop (fun v st => jaLi (fun x => jaIf cd x y (J a ls st σ) (K is ls st σ)) v) st) v) st
    | .tableswitch _ lo hi _ => jaPop (fun v st => jaLi (fun x => (x.toInt < lo ∨ hi < x.toInt → J a ls st σ) ∧ jaSw x (fun t => J t ls st σ) lo l) v) st
    | .lookupswitch _ ps => jaPop (fun v st => jaLi (fun x => (jaNo x ps.toList → J a ls st σ) ∧ jaLk x (fun t => J t ls st σ) ps.toList l) v) st
    | .getfield _ => match l, st with
      | [o, tag, o', ka], .inr (.inr (q, k, c)) :: st => bif Nat.beq q o then (match tag with
        | 0 => K is ls (.inl ((σ k).1 o c a) :: st) σ
        | 1 => K is ls (.inr (.inl ((σ k).2 o c a)) :: st) σ
        | 2 => K is ls (.inl ((σ k).1 o c a) :: st) σ
        | 3 => K is ls (.inr (.inr (o', k + ka, c)) :: st) σ
        | _ => K is ls (.inl (Int32.ofNat ka) :: st) σ) else False
      | _, _ => False
    | .putfield _ => match l, st with
      | [o, 0, _, _], .inl v :: .inr (.inr (q, k, c)) :: st => bif Nat.beq q o then K is ls st (jaU σ k (jaUI (σ k) o c a v)) else False
      | [o, 2, _, _], .inl v :: .inr (.inr (q, k, c)) :: st => bif Nat.beq q o then (v = 0 ∨ v = 1) ∧ K is ls st (jaU σ k (jaUI (σ k) o c a v)) else False
      | [o, 1, _, _], .inr (.inl v) :: .inr (.inr (q, k, c)) :: st => bif Nat.beq q o then K is ls st (jaU σ k (jaUL (σ k) o c a v)) else False
      | _, _ => False
    | .getstatic _ => match l with
      | [0] => K is ls (.inl (Int32.ofNat a) :: st) σ
      | [1, o, k] => K is ls (.inr (.inr (o, k, 0)) :: st) σ
      | _ => False
    | .arraylength => match st with
      | .inr (.inr (o, _, _)) :: st => match jaN (5, 0, 0, 0, false, false) Ar o with
        | (5, _) => False
        | (_, n, _) => K is ls (.inl (Int32.ofNat n) :: st) σ
      | _ => False
    | .iaload => match st with
      | .inl x :: .inr (.inr (o, k, c)) :: st => match jaN (5, 0, 0, 0, false, false) Ar o with
        | (0, n, _) => vp_in x n ∧ K is ls (.inl ((σ k).1 o c (jaIx x)) :: st) σ
        | (7, n, _) => vp_in x n ∧ K is ls (.inl ((σ k).1 o c (jaIx x)) :: st) σ
        | _ => False
      | _ => False
    | .baload => match st with
      | .inl x :: .inr (.inr (o, k, c)) :: st => match jaN (5, 0, 0, 0, false, false) Ar o with
        | (2, n, _) => vp_in x n ∧ K is ls (.inl ((σ k).1 o c (jaIx x)) :: st) σ
        | (3, n, _) => vp_in x n ∧ K is ls (.inl ((σ k).1 o c (jaIx x)) :: st) σ
        | (6, n, si, _) => vp_in x n ∧ K is ls (.inl (Int32.ofNat (jaN 0 (jaN [] jaStr si) (jaIx x))) :: st) σ
        | _ => False
      | _ => False
    | .laload => match st with
      | .inl x :: .inr (.inr (o, k, c)) :: st => match jaN (5, 0, 0, 0, false, false) Ar o with
        | (1, n, _) => vp_in x n ∧ K is ls (.inr (.inl ((σ k).2 o c (jaIx x))) :: st) σ
        | _ => False
      | _ => False
    | .aaload => match st with
      | .inl x :: .inr (.inr (o, k, _)) :: st => match jaN (5, 0, 0, 0, false, false) Ar o with
        | (4, n, o', a, fb, fd) => vp_in x n ∧ K is ls (.inr (.inr (o', k + (a + (bif fb then jaIx x else 0)), bif fd then jaIx x else 0)) :: st) σ
        | _ => False
      | _ => False
    | .iastore => match st with
      | .inl v :: .inl x :: .inr (.inr (o, k, c)) :: st => match jaN (5, 0, 0, 0, false, false) Ar o with
        | (0, n, _) => vp_in x n ∧ K is ls st (jaU σ k (jaUI (σ k) o c (jaIx x) v))
        | _ => False
      | _ => False
    | .bastore => match st with
      | .inl v :: .inl x :: .inr (.inr (o, k, c)) :: st => match jaN (5, 0, 0, 0, false, false) Ar o with
        | (2, n, _) => vp_in x n ∧ (v = 0 ∨ v = 1) ∧ K is ls st (jaU σ k (jaUI (σ k) o c (jaIx x) v))
        | (3, n, _) => vp_in x n ∧ K is ls st (jaU σ k (jaUI (σ k) o c (jaIx x) v.toInt8.toInt32))
        | _ => False
      | _ => False
    | .lastore => match st with
      | .inr (.inl v) :: .inl x :: .inr (.inr (o, k, c)) :: st => match jaN (5, 0, 0, 0, false, false) Ar o with
        | (1, n, _) => vp_in x n ∧ K is ls st (jaU σ k (jaUL (σ k) o c (jaIx x) v))
        | _ => False
      | _ => False
    | .invokevirtual _ => match l with
      | [n, 0, o] => bif jaRecv o (st.take n).reverse && (Nat.ble (jaCat (st.drop n)) 8 && Nat.ble n st.length) then Γ a (st.take n).reverse σ (jaKv fun σ => K is ls (st.drop n) σ) else False
      | [n, 1, o] => bif jaRecv o (st.take n).reverse && (Nat.ble (jaCat (st.drop n)) 8 && Nat.ble n st.length) then Γ a (st.take n).reverse σ (jaKi fun x σ => K is ls (.inl x :: st.drop n) σ) else False
      | [n, 2, o] => bif jaRecv o (st.take n).reverse && (Nat.ble (jaCat (st.drop n)) 8 && Nat.ble n st.length) then Γ a (st.take n).reverse σ (jaKl fun x σ => K is ls (.inr (.inl x) :: st.drop n) σ) else False
      | _ => X ((pc, i, a, l) :: is) ls st σ
    | .invokestatic _ => match l with
      | [n, 0] => bif Nat.ble (jaCat (st.drop n)) 8 && Nat.ble n st.length then Γ a (st.take n).reverse σ (jaKv fun σ => K is ls (st.drop n) σ) else False
      | [n, 1] => bif Nat.ble (jaCat (st.drop n)) 8 && Nat.ble n st.length then Γ a (st.take n).reverse σ (jaKi fun x σ => K is ls (.inl x :: st.drop n) σ) else False
      | [n, 2] => bif Nat.ble (jaCat (st.drop n)) 8 && Nat.ble n st.length then Γ a (st.take n).reverse σ (jaKl fun x σ => K is ls (.inr (.inl x) :: st.drop n) σ) else False
      | _ => X ((pc, i, a, l) :: is) ls st σ
    | .ireturn => match a, st with
      | 0, [.inl x] => Q (some (.inl x)) σ
      | 1, [.inl x] => (x = 0 ∨ x = 1) ∧ Q (some (.inl x)) σ
      | 2, [.inl x] => (x.toUInt32 % 65536).toInt32 = x ∧ Q (some (.inl x)) σ
      | 3, [.inl x] => x.toInt8.toInt32 = x ∧ Q (some (.inl x)) σ
      | _, _ => X ((pc, i, a, l) :: is) ls st σ
    | .lreturn => match st with
      | [.inr (.inl x)] => Q (some (.inr (.inl x))) σ
      | _ => False
    | .return_ => match st with
      | [] => Q none σ
      | _ => False
    | _ => X ((pc, i, a, l) :: is) ls st σ
/-- the code behind a label -/
def jaAt (f : List jaI) (ps : List Nat) (a : Nat) : List jaI := f.drop (jaN 0 ps a)
/-- a run: the least that is closed under steps -/
def jaRun (Ar : List jaA) (Γ : jaG) (f : List jaI) (ps : List Nat) (Q : jaQ) (X : jaX) : jaX := fun is ls st σ =>
  ∀ P : jaX, (∀ is ls st σ, jaStep Ar Γ Q X P (fun a => P (jaAt f ps a)) is ls st σ → P is ls st σ) → P is ls st σ
/-- the same, unrolled till labels of a list -/
def jaGo (Ar : List jaA) (Γ : jaG) (f : List jaI) (ps : List Nat) (Q : jaQ) (X : jaX) (cut : List Nat) : Nat → jaX
  | 0 => jaRun Ar Γ f ps Q X
  | n + 1 => jaStep Ar Γ Q X (jaGo Ar Γ f ps Q X cut n) (fun a => bif jaIn a cut then jaRun Ar Γ f ps Q X (jaAt f ps a) else jaGo Ar Γ f ps Q X cut n (jaAt f ps a))
/-- an argument list as locals -/
def jaArg : List jaV → List (Option jaV)
  | [] => []
  | .inr (.inl x) :: l => some (.inr (.inl x)) :: none :: jaArg l
  | v :: l => some v :: jaArg l
def jaPad : Nat → List (Option jaV)
  | 0 => []
  | n + 1 => none :: jaPad n
/-- a method: its code, its labels, how many locals -/
abbrev jaM : Type := List jaI × List Nat × Nat
def jaNoX : jaX := fun _ _ _ _ => False
/-- calls to a depth: a method's run over the calls of less depth -/
def jaCall (Ar : List jaA) (mt : List jaM) : Nat → jaG
  | 0 => fun _ _ _ _ => False
  | d + 1 => fun y as σ Q => bif Nat.ble (jaArg as).length (jaN ([], [], 0) mt y).2.2 then jaRun Ar (jaCall Ar mt d) (jaN ([], [], 0) mt y).1 (jaN ([], [], 0) mt y).2.1 Q jaNoX (jaAt (jaN ([], [], 0) mt y).1 (jaN ([], [], 0) mt y).2.1 0)
      (jaArg as ++ jaPad ((jaN ([], [], 0) mt y).2.2 - (jaArg as).length)) [] σ else False
