section
/-! the reference's state as arrays: s (706), d (transactions), e (entries); what its methods make of them -/
abbrev jvA : Type := Nat → Int32
def jz (s : jvA) (j : Nat) : Nat := jaIx (s j)
/-- a bit of an int -/
def jaBt (x : Int32) (k : Nat) : Prop := (x >>> (nI k &&& 31)) &&& nI 1 = nI 1
/-- the bit of a key -/
def jaMk (x : Int32) : Int32 := nI 1 <<< (x &&& 31)
/-- loops as functions -/
def jaRec {α : Type} (f : Nat → α → α) (a : α) : Nat → α
  | 0 => a
  | n + 1 => f n (jaRec f a n)
noncomputable def jaIf1 {α : Type} (p : Prop) (a b : α) : α := @ite α p (Classical.propDecidable p) a b
theorem jaIf1_t {α : Type} {p : Prop} {a b : α} (h : p) : jaIf1 p a b = a := if_pos h
theorem jaIf1_f {α : Type} {p : Prop} {a b : α} (h : ¬ p) : jaIf1 p a b = b := if_neg h
/-- the key of a reference that stands at a place of d -/
noncomputable def jvKey (d e : jvA) (id p : Nat) : Int32 := jaIf1 (0 ≤ d (p + 1)) (e (9 * id + 5 + jaIx (d (p + 1)))) (d p)
noncomputable def jvMod (v k : Int32) : Int32 := jaIf1 (0 ≤ v - v / k * k) (v - v / k * k) (v - v / k * k + k)
/-- what comes: foreseen keys, the masks, its row -/
noncomputable def jvFore (s d : jvA) (b eb : Nat) (e : jvA) : Nat → jvA := jaRec (fun j e => jaPt e (eb + j) (jvMod (s (145 + jz d (b + 3 + j))) (s 1))) e
noncomputable def jvRa (d : jvA) (b : Nat) : Nat → Int32 := jaRec (fun j x => x ||| jaMk (d (b + 3 + j))) (nI 0)
noncomputable def jvRt (d e : jvA) (id t : Nat) (r : Int32) : Nat → Int32 := jaRec (fun x r => jaIf1 (d (t + 5 + 4 * x) = nI 1) (r ||| jaMk (jvKey d e id (t + 6 + 4 * x))) r) r
noncomputable def jvRs (d e : jvA) (id b : Nat) : Nat → Int32 := jaRec (fun k r => jvRt d e id (b + 7 + 21 * k) (jaIf1 (d (b + 7 + 21 * k) = 0) r (r ||| jaMk (jvKey d e id (b + 7 + 21 * k + 1)))) (jz d (b + 7 + 21 * k + 4))) (jvRa d b (jz d (b + 2)))
noncomputable def jvWs (d e : jvA) (id b : Nat) : Nat → Int32 := jaRec (fun k w => jaIf1 (d (b + 7 + 21 * k) = 0) (w ||| jaMk (jvKey d e id (b + 7 + 21 * k + 1))) w) (nI 0)
noncomputable def jvWh (s : jvA) (x : Int32) : Nat → Int32 := jaRec (fun k w => jaIf1 (jaBt x k) (w ||| jaMk (s (5 + k))) (w ||| nI 0)) (nI 0)
/-- how many bits; the machine's own loop -/
def jvBits : Nat → Int32 → Nat
  | 0, _ => 0
  | n + 1, x => if x = 0 then 0 else jvBits n (x &&& (x - nI 1)) + 1
noncomputable def jvComeE (s d e : jvA) (n : Nat) : jvA :=
  let id := jz s 33
  let b := 133 * n
  let e1 := jvFore s d b (9 * id + 5) e (jz d (b + 2))
  let r := jvRs d e1 id b (jz d (b + 1))
  let w := jvWs d e1 id b (jz d (b + 1))
  jaPt (jaPt (jaPt (jaPt (jaPt e1 (9 * id) (nI n)) (9 * id + 1) (d b)) (9 * id + 2) (r &&& (w ^^^ (-1 : Int32)))) (9 * id + 3) w) (9 * id + 4) (jaIf1 (1 < jvBits 32 (jvWh s (r ||| w) (jz s 1))) (nI 1) (nI 0))
def jvComeS (s : jvA) : jvA := jaPt (jaPt (jaPt s 33 (s 33 + nI 1)) (81 + jz s 35) (s 33)) 35 (s 35 + nI 1)
/-- entries of the order -/
def jvOv (s : jvA) (c i : Nat) : Prop := ¬ s (175 + 40 * c + i) ≤ nI 1
def jvId (s : jvA) (i : Nat) : Nat := jz s (41 + i)
def jvCf (s e : jvA) (i j : Nat) : Prop := ¬ (e (9 * jvId s i + 3) &&& (e (9 * jvId s j + 2) ||| e (9 * jvId s j + 3))) ||| (e (9 * jvId s i + 2) &&& e (9 * jvId s j + 3)) = 0
def jvWd (s e : jvA) (i : Nat) : Prop := e (9 * jvId s i + 4) = nI 1
def jvLg (s e : jvA) (i : Nat) : Prop := jvWd s e i ∧ ¬ s 4 ≤ 0
noncomputable def jvAh (s e : jvA) (c i : Nat) : Nat → Nat := jaCnt (fun j => ¬ jvOv s c j ∧ jvCf s e i j)
def jvRdy (s e : jvA) (c i : Nat) : Prop := s (175 + 40 * c + i) = 0 ∧ jvAh s e c i i = 0
/-- how an entry goes by values -/
def jvAg (row : jvA) (d e : jvA) (k : Int32) (id b n : Nat) : Prop := ∃ j, j < n ∧ ¬ jvMod (row (jz d (b + 3 + j))) k = e (9 * id + 5 + j)
noncomputable def jvTm (d e : jvA) (id : Nat) (v : jvA) (u : Nat) : Int32 :=
  jaIf1 (d (u + 3) = nI 1) (- jaIf1 (d u = 0) (d (u + 1)) (v (jaIx (jvKey d e id (u + 1))))) (jaIf1 (d u = 0) (d (u + 1)) (v (jaIx (jvKey d e id (u + 1)))))
noncomputable def jvSum (d e : jvA) (id : Nat) (v : jvA) (t : Nat) : Nat → Int32 := jaRec (fun x z => z + jvTm d e id v (t + 5 + 4 * x)) (nI 0)
def jvOk (g v z : Int32) : Prop := (g = nI 60 ∧ ¬ z ≤ v) ∨ (g = nI 61 ∧ v = z) ∨ (¬ g = nI 60 ∧ ¬ g = nI 61 ∧ z < v)
/-- the steps from k on, so many left -/
noncomputable def jvSts (d e : jvA) (id b : Nat) : Nat → Nat → jvA → Int32 → Option (jvA × Int32)
  | 0, _, v, w => some (v, w)
  | m + 1, k, v, w =>
    let t := b + 7 + 21 * k
    let z := jvSum d e id v t (jz d (t + 4))
    let q := jvKey d e id (t + 1)
    jaIf1 (d t = nI 1) (jaIf1 (jvOk (d (t + 3)) (v (jaIx q)) z) (jvSts d e id b m (k + 1) v w) none) (jvSts d e id b m (k + 1) (jaPt v (jaIx q) z) (w ||| jaMk q))
noncomputable def jvGo (row d e : jvA) (k : Int32) (id : Nat) : Int32 × jvA × Int32 :=
  let b := 133 * jz e (9 * id)
  jaIf1 (jvAg row d e k id b (jz d (b + 2))) (nI 3, row, nI 0) (match jvSts d e id b (jz d (b + 1)) 0 row (nI 0) with
    | some (v, w) => (nI 2, v, w)
    | none => (nI 4, row, nI 0))
/-- writing what an entry gives -/
noncomputable def jvTw (s : jvA) (c i k : Nat) : jvA := jaIf1 (c = 0 ∧ s 36 = nI 1 ∧ ¬ nI i < s 37 ∧ ¬ nI k < s 38 ∧ ¬ jaBt (s 39) k) (jaPt (jaPt s 39 (s 39 ||| jaMk (nI k))) (455 + k) (s (145 + k))) s
noncomputable def jvPut (c i : Nat) (v : jvA) (w : Int32) (s : jvA) : Nat → jvA := jaRec (fun k s => jaIf1 (jaBt w k) (jaPt (jvTw s c i k) (145 + 10 * c + k) (v k)) s) s
noncomputable def jvEx (s d e : jvA) (c i : Nat) : jvA × jvA :=
  let id := jvId s i
  let g := jvGo (fun k => s (145 + 10 * c + k)) d e (s 1) id
  let s1 := jaPt (jaPt s (175 + 40 * c + i) g.1) (295 + 40 * c + i) (nI 0)
  let s2 := jaIf1 (g.1 = nI 2) (jvPut c i g.2.1 g.2.2 s1 (jz s 1)) s1
  jaIf1 (g.1 = nI 3 ∧ c = 0 ∧ ¬ s (415 + i) = nI 1) (jvComeS (jaPt s2 (415 + i) (nI 1)), jvComeE (jaPt s2 (415 + i) (nI 1)) d e (jz e (9 * id))) (s2, e)
/-- those that go -/
noncomputable def jvPs1 (d : jvA) (c i : Nat) (x : jvA × jvA) : jvA × jvA :=
  let s1 := jaPt x.1 (295 + 40 * c + i) (x.1 (295 + 40 * c + i) - nI 1)
  jaIf1 (x.1 (175 + 40 * c + i) = nI 1) (jaIf1 (s1 (295 + 40 * c + i) = 0) (jvEx s1 d x.2 c i) (s1, x.2)) x
noncomputable def jvPs (d : jvA) (c : Nat) (x : jvA × jvA) : Nat → jvA × jvA := jaRec (jvPs1 d c) x
/-- of n places from i on the first that are so, so many at most -/
noncomputable def jvPk (p : Nat → Prop) (f : Nat → Nat) : Nat → Nat → Nat → List Nat
  | 0, _, _ => []
  | m + 1, i, q => jaIf1 (q = 0 ∨ ¬ p (f i)) (jvPk p f m (i + 1) q) (f i :: jvPk p f m (i + 1) (q - 1))
noncomputable def jvTk1 (d : jvA) (c i : Nat) (x : jvA × jvA) : jvA × jvA :=
  jaIf1 (jvLg x.1 x.2 i) (jaPt (jaPt x.1 (175 + 40 * c + i) (nI 1)) (295 + 40 * c + i) (x.1 4), x.2) (jvEx x.1 d x.2 c i)
noncomputable def jvTk (d : jvA) (c : Nat) : List Nat → jvA × jvA → jvA × jvA
  | [], x => x
  | i :: l, x => jvTk d c l (jvTk1 d c i x)
noncomputable def jvAt (s : jvA) (c k : Nat) : Nat := jaIf1 (s (28 + c) = nI 1) (jz s 34 - 1 - k) k
noncomputable def jvPks (s e : jvA) (c : Nat) : List Nat := jvPk (jvRdy s e c) (jvAt s c) (jz s 34) 0 (jz s (25 + c))
noncomputable def jvCg (d : jvA) (c : Nat) (x : jvA × jvA) : jvA × jvA :=
  let y := jvPs d c x (jz x.1 34)
  jvTk d c (jvPks y.1 y.2 c) y
/-- checks -/
def jvAo (s : jvA) (c n : Nat) : Prop := ∀ i, i < n → jvOv s c i
def jvCe1 (s : jvA) : Nat → jvA := jaRec (fun k s => jaPt (jaPt s (455 + k) (nI 0)) (465 + k) (nI 0)) s
def jvCe (s : jvA) : jvA := jvCe1 (jaPt (jaPt (jaPt (jaPt s 36 (nI 0)) 37 (nI 0)) 38 (nI 0)) 39 (nI 0)) 10
def jvSa1 (s : jvA) : Nat → jvA := jaRec (fun k s => jaPt s (475 + k) (s (465 + k))) s
noncomputable def jvSa2 (s : jvA) : Nat → jvA := jaRec (fun i s => jaPt s (485 + i) (jaIf1 (s 37 ≤ nI i) (nI 0) (s (175 + i)))) s
noncomputable def jvSa (s : jvA) : jvA := jvCe (jvSa2 (jvSa1 (jaPt s 40 (s 37)) (jz s 1)) 40)
noncomputable def jvCh (s : jvA) : jvA := jaIf1 (s 1 = 0) (jvSa (jaPt (jaPt s 36 (nI 1)) 37 (s 34))) (jaPt (jaPt s 36 (nI 1)) 37 (s 34))
noncomputable def jvTn (s : jvA) : jvA :=
  let k := jz s 38
  let s1 := jaPt (jaPt s (465 + k) (jaIf1 (jaBt (s 39) k) (s (455 + k)) (s (145 + k)))) 38 (s 38 + nI 1)
  jaIf1 (s 36 = 0 ∨ ¬ jvAo s 0 (jz s 37)) s (jaIf1 (s 38 + nI 1 = s 1) (jvSa s1) s1)
/-- an epoch ends: those of one site; all -/
noncomputable def jvAs1 (e : jvA) (x k : Nat) (y : jvA × Nat) : jvA × Nat :=
  let id := y.1 (81 + k)
  jaIf1 (e (9 * jaIx id + 1) = nI x ∧ ¬ nI 40 ≤ y.1 34) (jaPt (jaPt y.1 (41 + jz y.1 34) id) 34 (y.1 34 + nI 1), y.2) (jaPt y.1 (81 + y.2) id, y.2 + 1)
noncomputable def jvAs (s e : jvA) (x : Nat) : Nat → jvA × Nat := jaRec (jvAs1 e x) (s, 0)
def jvAz (s : jvA) (a : Nat) : Nat → jvA := jaRec (fun k s => jaPt s (81 + a + k) (nI 0)) s
noncomputable def jvSite (e : jvA) (x : Nat) (s : jvA) : jvA :=
  let y := jvAs s e x (jz s 35)
  jaPt (jvAz y.1 y.2 (jz s 35 - y.2)) 35 (nI y.2)
noncomputable def jvAg2 (s e : jvA) : Nat → jvA := jaRec (jvSite e) s
/-- a tick -/
noncomputable def jvCgs (d : jvA) (x : jvA × jvA) : Nat → jvA × jvA := jaRec (jvCg d) x
noncomputable def jvTick (d : jvA) (x : jvA × jvA) : jvA × jvA :=
  let y := jvCgs d x (jz x.1 2)
  let s1 := jvTn y.1
  let s2 := jaIf1 (s1 31 + nI 1 - (s1 31 + nI 1) / s1 3 * s1 3 = 0) (jvAg2 s1 y.2 (jz s1 0)) s1
  (jaPt s2 31 (s2 31 + nI 1), y.2)
noncomputable def jvTicks (d : jvA) (x : jvA × jvA) : Nat → jvA × jvA := jaRec (fun _ x => jvTick d x) x
/-- a transaction is put, a copy crashes -/
def jvPd (d : jvA) (m n : Nat) (x : Int32) : jvA := fun j => if j = 133 * m then x else if 133 * m < j ∧ j < 133 * m + 133 then d (j - 133 * m + 133 * n) else d j
noncomputable def jvPuts (s d e : jvA) (x : Int32) (n : Nat) : jvA × jvA × jvA :=
  let d1 := jvPd d (jz s 32) n x
  let s1 := jaPt s 32 (s 32 + nI 1)
  (jvComeS s1, d1, jvComeE s1 d1 e (jz s 32))
def jvCr1 (c : Nat) (s : jvA) : Nat → jvA := jaRec (fun k s => jaPt s (145 + 10 * c + k) (s (475 + k))) s
noncomputable def jvCr2 (c : Nat) (s : jvA) : Nat → jvA := jaRec (fun i s => jaPt (jaPt s (175 + 40 * c + i) (jaIf1 (s 40 ≤ nI i) (nI 0) (s (485 + i)))) (295 + 40 * c + i) (nI 0)) s
noncomputable def jvCr (s : jvA) (c : Nat) : jvA := jvCr2 c (jvCr1 c (jaIf1 (c = 0) (jvCe s) s) 10) 40
end
