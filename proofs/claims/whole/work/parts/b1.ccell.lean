section
/-! known cells: what constructors make (an object: its class, its fields; an array: 100 int, 101 long, 102 boolean, 103 byte, 104 .. 106 references, its length, what was written) -/
abbrev jkC : Type := Nat × Nat × List (Nat × jaV)
abbrev jkG : Type := List jaI × List (Option jaV) × List jaV × List jkC × Nat
def jkNu : jaV := .inr (.inr (104, 0, 0))
def jkAd (i : Nat) : jaV := .inr (.inr (200, i, 0))
def jkIf : jaV → Int32
  | .inl x => x
  | _ => 0
def jkLf : jaV → Int64
  | .inr (.inl x) => x
  | _ => 0
def jkI : List (Nat × jaV) → Nat → Int32
  | [], _ => 0
  | (k, v) :: l, j => if j = k then jkIf v else jkI l j
def jkL : List (Nat × jaV) → Nat → Int64
  | [], _ => 0
  | (k, v) :: l, j => if j = k then jkLf v else jkL l j
def jkRf (an : jaR → Nat) : jaV → Option Nat
  | .inr (.inr r) => some (an r)
  | _ => none
def jkR (an : jaR → Nat) : List (Nat × jaV) → Nat → Option Nat
  | [], _ => none
  | (k, v) :: l, j => if j = k then jkRf an v else jkR an l j
def jkE (dA : Nat → ClassId) (an : jaR → Nat) (c : jkC) : va_E :=
  if c.1 < 100 then .inr (c.1, c.2.2.map fun q => jaTr an .null q.2)
  else if c.1 = 101 then .inl (dA 1, c.2.1, .inr (.inl (jkL c.2.2)))
  else if c.1 < 104 then .inl (dA (c.1 - 100), c.2.1, .inl (jkI c.2.2))
  else .inl (dA (c.1 - 100), c.2.1, .inr (.inr (.inr (.inr (jkR an c.2.2)))))
def jkWs (dA : Nat → ClassId) (an : jaR → Nat) (cs : List jkC) : va_W := cs.zipIdx.map fun q => (an (200, q.2, 0), jkE dA an q.1)
theorem jkWs_get {dA : Nat → ClassId} {an : jaR → Nat} {cs : List jkC} {k : Nat} : (jkWs dA an cs)[k]? = cs[k]?.map fun c => (an (200, k, 0), jkE dA an c) := by
  unfold jkWs
  rw [List.getElem?_map, List.getElem?_zipIdx]
  cases cs[k]? with
  | none => rfl
  | some c => simp
theorem jkWs_some {dA : Nat → ClassId} {an : jaR → Nat} {cs : List jkC} {k : Nat} {q : Nat × va_E} (h : (jkWs dA an cs)[k]? = some q) : ∃ c, cs[k]? = some c ∧ q = (an (200, k, 0), jkE dA an c) := by
  rw [jkWs_get] at h
  cases hc : cs[k]? with
  | none => rw [hc] at h; cases h
  | some c => rw [hc] at h; cases h; exact ⟨c, rfl, rfl⟩
theorem jkWs_len {dA : Nat → ClassId} {an : jaR → Nat} {cs : List jkC} : (jkWs dA an cs).length = cs.length := by simp [jkWs]
theorem jkWs_set {dA : Nat → ClassId} {an : jaR → Nat} {cs : List jkC} {k : Nat} {c : jkC} : (jkWs dA an cs).set k (an (200, k, 0), jkE dA an c) = jkWs dA an (cs.set k c) := by
  apply List.ext_getElem?
  intro i
  rw [jkWs_get, List.getElem?_set, List.getElem?_set, jkWs_len, jkWs_get]
  by_cases q : k = i
  · subst q
    by_cases z : k < cs.length
    · simp [z]
    · simp [z]
  · simp [q]
/-! which addresses they tell -/
def jkVo (n : Nat) : jaV → Bool
  | .inr (.inr r) => !(Nat.beq r.1 200) || (Nat.blt r.2.1 n && Nat.beq r.2.2 0)
  | _ => true
def jkVx (n : Nat) : jaV → Bool
  | .inr (.inr r) => !(Nat.beq r.1 201) || Nat.blt r.2.1 n
  | _ => true
def jkOs (n : Nat) (st : List jaV) : Bool := st.all (jkVo n)
def jkOl (n : Nat) (ls : List (Option jaV)) : Bool := ls.all fun o => match o with | some v => jkVo n v | none => true
def jkOc (n : Nat) (cs : List jkC) : Bool := cs.all fun c => c.2.2.all fun q => jkVo n q.2
def jkOx (n : Nat) (cs : List jkC) : Bool := cs.all fun c => c.2.2.all fun q => jkVx n q.2
def jkSm (n : Nat) (an an' : jaR → Nat) : Prop := ∀ r : jaR, (r.1 = 200 → r.2.1 < n ∧ r.2.2 = 0) → an' r = an r
theorem jkVo_r {n : Nat} {r : jaR} (h : jkVo n (.inr (.inr r)) = true) (e : r.1 = 200) : r.2.1 < n ∧ r.2.2 = 0 := by
  simp only [jkVo, Bool.or_eq_true, Bool.and_eq_true, e] at h
  rcases h with h | h
  · cases h
  · exact ⟨Nat.le_of_ble_eq_true h.1, Nat.eq_of_beq_eq_true h.2⟩
theorem jkTr_c {n : Nat} {an an' : jaR → Nat} {sv : Value} {v : jaV} (h : jkSm n an an') (hv : jkVo n v = true) : jaTr an' sv v = jaTr an sv v := by
  rcases v with x | x | r
  · rfl
  · rfl
  · show jaAd an' sv r = jaAd an sv r
    unfold jaAd
    rw [h r (jkVo_r hv)]
theorem jkMap_c {n : Nat} {an an' : jaR → Nat} {sv : Value} {st : List jaV} (h : jkSm n an an') (hv : jkOs n st = true) : st.map (jaTr an' sv) = st.map (jaTr an sv) :=
  List.map_congr_left fun v hm => jkTr_c h (List.all_eq_true.mp hv v hm)
theorem jkR_c {n : Nat} {an an' : jaR → Nat} (h : jkSm n an an') : ∀ {l : List (Nat × jaV)}, (l.all fun q => jkVo n q.2) = true → jkR an' l = jkR an l
  | [], _ => rfl
  | (k, v) :: l, hv => by
    rw [List.all_cons, Bool.and_eq_true] at hv
    funext j
    rw [jkR, jkR, jkR_c h hv.2]
    have e : jkRf an' v = jkRf an v := by
      rcases v with x | x | r
      · rfl
      · rfl
      · exact congrArg some (h r (jkVo_r hv.1))
    rw [e]
theorem jkE_c {n : Nat} {dA : Nat → ClassId} {an an' : jaR → Nat} {c : jkC} (h : jkSm n an an') (hv : (c.2.2.all fun q => jkVo n q.2) = true) : jkE dA an' c = jkE dA an c := by
  unfold jkE
  rw [jkR_c h hv]
  have e : (c.2.2.map fun q => jaTr an' .null q.2) = c.2.2.map fun q => jaTr an .null q.2 := List.map_congr_left fun q hm => jkTr_c h (List.all_eq_true.mp hv q hm)
  rw [e]
theorem jkWs_c {dA : Nat → ClassId} {an an' : jaR → Nat} {cs : List jkC} (h : jkSm cs.length an an') (hv : jkOc cs.length cs = true) : jkWs dA an' cs = jkWs dA an cs := by
  apply List.ext_getElem?
  intro k
  rw [jkWs_get, jkWs_get]
  cases hc : cs[k]? with
  | none => rfl
  | some c =>
    have hk : k < cs.length := (List.getElem?_eq_some_iff.mp hc).1
    show some (_, _) = some (_, _)
    rw [h (200, k, 0) (fun _ => ⟨hk, rfl⟩), jkE_c h (List.all_eq_true.mp hv c (List.mem_of_getElem? hc))]
theorem jkLh_c {n : Nat} {an an' : jaR → Nat} {sv : Value} {lsA : Array Slot} {nL : Nat} {ls : List (Option jaV)} (h : jkSm n an an') (hv : jkOl n ls = true) (hl : jaLh an sv lsA nL ls) : jaLh an' sv lsA nL ls := by
  refine ⟨hl.1, hl.2.1, hl.2.2.1, fun i v hi => ?_⟩
  have hm := List.all_eq_true.mp hv (some v) (List.mem_of_getElem? hi)
  rw [jkTr_c h hm]
  exact hl.2.2.2 i v hi
/-- one cell more -/
def jkUp (an : jaR → Nat) (n q : Nat) : jaR → Nat := fun r => if r = (200, n, 0) then q else an r
theorem jkUp_s {an : jaR → Nat} {n q : Nat} : jkSm n an (jkUp an n q) := by
  intro r h
  unfold jkUp
  rw [if_neg]
  rintro rfl
  exact absurd (h rfl).1 (Nat.lt_irrefl _)
theorem jkUp_e {an : jaR → Nat} {n q : Nat} : jkUp an n q (200, n, 0) = q := if_pos rfl
theorem jkWs_push {dA : Nat → ClassId} {an : jaR → Nat} {cs : List jkC} {c : jkC} {q : Nat} (hv : jkOc cs.length cs = true) (hc : (c.2.2.all fun q => jkVo cs.length q.2) = true) : jkWs dA (jkUp an cs.length q) (cs ++ [c]) = jkWs dA an cs ++ [(q, jkE dA an c)] := by
  apply List.ext_getElem?
  intro k
  rw [jkWs_get]
  by_cases hk : k < cs.length
  · rw [List.getElem?_append_left hk, List.getElem?_append_left (by rw [jkWs_len]; exact hk), ← jkWs_get, jkWs_c jkUp_s hv]
  · rw [List.getElem?_append_right (by omega), List.getElem?_append_right (by rw [jkWs_len]; omega), jkWs_len]
    by_cases e : k - cs.length = 0
    · have e2 : k = cs.length := by omega
      subst e2
      rw [e]
      show some (jkUp an cs.length q (200, cs.length, 0), _) = some _
      rw [jkUp_e, jkE_c jkUp_s hc]
    · rw [List.getElem?_eq_none (by simp; omega), List.getElem?_eq_none (by simp; omega)]
      rfl
end
section
/-! the machine of constructors -/
def jkAt (t : Nat) : FieldType := jaN .int [.int, .long, .boolean, .byte, .object "AgreedInput$Copy", .object "AgreedInput$Sentence", .object "AgreedInput$State"] t
def jkCo (t : Nat) : Nat := jaN 0 [2, 7, 8] (t - 4)
def jkDv : FieldType → jaV
  | .int => .inl 0
  | .boolean => .inl 0
  | .long => .inr (.inl 0)
  | _ => jkNu
def jkDef (ci : Nat) : List (Nat × jaV) := (List.range (jaClN ci).2.2).map fun k => (k, jkDv (jkTyN ci k))
def jkFit : FieldType → jaV → Bool
  | .int, .inl _ => true
  | .object _, .inr (.inr r) => !(Nat.beq r.1 104)
  | .array _, .inr (.inr r) => !(Nat.beq r.1 104)
  | _, _ => false
def jkRo (l : List Nat) (n i : Nat) : Nat := (l[i]?).getD (n + (i - l.length))
def jkRv (l : List Nat) (n : Nat) : jaV → jaV
  | .inr (.inr r) => if r.1 = 200 then .inr (.inr (200, jkRo l n r.2.1, 0)) else if r.1 = 201 then .inr (.inr (200, r.2.1, 0)) else .inr (.inr r)
  | v => v
def jkRc (l : List Nat) (n : Nat) (c : jkC) : jkC := (c.1, c.2.1, c.2.2.map fun q => (q.1, jkRv l n q.2))
def jkPs : List Nat → Nat → Option Nat
  | [], _ => none
  | a :: t, k => if k = a then some 0 else (jkPs t k).map (· + 1)
def jkJn (l : List Nat) (cs c1 : List jkC) : List jkC := (List.range (cs.length + (c1.length - l.length))).map fun k => match jkPs l k with
  | some j => jkRc l cs.length (c1.getD j (0, 0, []))
  | none => if k < cs.length then cs.getD k (0, 0, []) else jkRc l cs.length (c1.getD (k - cs.length + l.length) (0, 0, []))
def jkIn (x : Int32) (n : Nat) : Bool := decide (¬ x < 0) && Nat.blt (jaIx x) n
def jkOk (c0 M N : Nat) (ls : List (Option jaV)) (st : List jaV) (cs : List jkC) (m sl : Nat) : Bool := jkOl cs.length ls && (jkOs cs.length st && (jkOc cs.length cs && (Nat.ble c0 cs.length && (Nat.ble (cs.length + m) (c0 + M) && Nat.ble sl N))))
def jkVb : jaV → jaV → Bool
  | .inl x, .inl y => decide (x = y)
  | .inr (.inl x), .inr (.inl y) => decide (x = y)
  | .inr (.inr (a, b, c)), .inr (.inr (a', b', c')) => Nat.beq a a' && (Nat.beq b b' && Nat.beq c c')
  | _, _ => false
def jkLb : List (Nat × jaV) → List (Nat × jaV) → Bool
  | [], [] => true
  | (k, v) :: l, (k', v') :: l' => Nat.beq k k' && (jkVb v v' && jkLb l l')
  | _, _ => false
def jkEb : jkC → jkC → Bool
  | (k, n, l), (k', n', l') => Nat.beq k k' && (Nat.beq n n' && jkLb l l')
def jkQs (cs : List jkC) : List Nat → List jkC → Bool
  | [], [] => true
  | i :: l, c :: d => (match cs[i]? with | some x => jkEb x c | none => false) && jkQs cs l d
  | _, _ => false
theorem jkVb_e {v w : jaV} (h : jkVb v w = true) : v = w := by
  rcases v with x | x | ⟨a, b, c⟩ <;> rcases w with y | y | ⟨a', b', c'⟩
  · rw [of_decide_eq_true h]
  · cases h
  · cases h
  · cases h
  · rw [of_decide_eq_true h]
  · cases h
  · cases h
  · cases h
  · simp only [jkVb, Bool.and_eq_true] at h
    rw [Nat.eq_of_beq_eq_true h.1, Nat.eq_of_beq_eq_true h.2.1, Nat.eq_of_beq_eq_true h.2.2]
theorem jkLb_e : ∀ {l l' : List (Nat × jaV)}, jkLb l l' = true → l = l'
  | [], [], _ => rfl
  | [], _ :: _, h => by cases h
  | _ :: _, [], h => by cases h
  | (k, v) :: l, (k', v') :: l', h => by
    simp only [jkLb, Bool.and_eq_true] at h
    rw [Nat.eq_of_beq_eq_true h.1, jkVb_e h.2.1, jkLb_e h.2.2]
theorem jkEb_e {c d : jkC} (h : jkEb c d = true) : c = d := by
  obtain ⟨k, n, l⟩ := c
  obtain ⟨k', n', l'⟩ := d
  simp only [jkEb, Bool.and_eq_true] at h
  rw [Nat.eq_of_beq_eq_true h.1, Nat.eq_of_beq_eq_true h.2.1, jkLb_e h.2.2]
theorem jkQs_e {cs : List jkC} : ∀ {l : List Nat} {d : List jkC}, jkQs cs l d = true → l.map (fun i => cs[i]?) = d.map some
  | [], [], _ => rfl
  | [], _ :: _, h => by cases h
  | _ :: _, [], h => by cases h
  | i :: l, c :: d, h => by
    simp only [jkQs, Bool.and_eq_true] at h
    rw [List.map_cons, List.map_cons, jkQs_e h.2]
    have h1 := h.1
    split at h1
    · rename_i x hx
      rw [hx, jkEb_e h1]
    · cases h1
abbrev jkZ : Type := List jkC × List jkC × Nat
def jkCall (Sm : Nat → Option jkZ) (c0 M N y : Nat) (l : List Nat) (is : List jaI) (ls : List (Option jaV)) (st : List jaV) (cs : List jkC) (sl : Nat) : Option jkG := match Sm y with
  | some (ci0, ci1, s1) => bif jkOk c0 M N ls st cs (ci1.length - l.length) (sl + s1) && (jkQs cs l (ci0.map (jkRc l cs.length)) && (va_nd l && (Nat.ble l.length ci1.length && (jkOc ci1.length ci1 && (jkOx cs.length ci1 && Nat.blt 0 l.length))))) then some (is, ls, st, jkJn l cs ci1, sl + s1) else none
  | none => none
def jkSt (Sm : Nat → Option jkZ) (c0 M N : Nat) (f : List jaI) (ps : List Nat) : jkG → Option jkG
  | ([], _) => none
  | ((_, i, a, l) :: is, ls, st, cs, sl) => match i with
    | .nop => some (jaAt f ps a, ls, st, cs, sl)
    | .aload_n n => match jaN none ls n with
      | some (.inr (.inr r)) => bif Nat.beq r.1 104 then none else some (is, ls, .inr (.inr r) :: st, cs, sl)
      | _ => none
    | .iload_n n => match jaN none ls n with
      | some (.inl x) => some (is, ls, .inl x :: st, cs, sl)
      | _ => none
    | .istore_n n => match st with
      | .inl x :: st => some (is, jaSet ls n (.inl x), st, cs, sl)
      | _ => none
    | .istore n => match st with
      | .inl x :: st => some (is, jaSet ls n (.inl x), st, cs, sl)
      | _ => none
    | .astore_n n => match st with
      | .inr (.inr r) :: st => bif Nat.beq r.1 104 then none else some (is, jaSet ls n (.inr (.inr r)), st, cs, sl)
      | _ => none
    | .iconst n => some (is, ls, .inl (Int32.ofInt n) :: st, cs, sl)
    | .bipush n => some (is, ls, .inl (Int8.ofInt n).toInt32 :: st, cs, sl)
    | .sipush n => some (is, ls, .inl (Int16.ofInt n).toInt32 :: st, cs, sl)
    | .ldc2_w _ => some (is, ls, .inr (.inl (Int64.ofNat a)) :: st, cs, sl)
    | .iinc n v => match jaN none ls n with
      | some (.inl x) => some (is, jaSet ls n (.inl (x + Int32.ofInt v)), st, cs, sl)
      | _ => none
    | .goto _ => some (jaAt f ps a, ls, st, cs, sl)
    | .if_icmp .ge _ => match st with
      | .inl y :: .inl x :: st => if y ≤ x then some (jaAt f ps a, ls, st, cs, sl) else some (is, ls, st, cs, sl)
      | _ => none
    | .dup => match st with
      | .inr (.inr r) :: st => some (is, ls, .inr (.inr r) :: .inr (.inr r) :: st, cs, sl)
      | _ => none
    | .new _ => bif jkOk c0 M N ls st cs 1 (sl + (jaClN a).2.2) && Nat.blt a 12 then some (is, ls, jkAd cs.length :: st, cs ++ [(a, 0, jkDef a)], sl + (jaClN a).2.2) else none
    | .newarray _ => match st with
      | .inl x :: st => bif jkOk c0 M N ls st cs 1 (sl + jaIx x) && (jkIn x 100000 && Nat.blt a 4) then some (is, ls, jkAd cs.length :: st, cs ++ [(100 + a, jaIx x, [])], sl + jaIx x) else none
      | _ => none
    | .anewarray _ => match st with
      | .inl x :: st => bif jkOk c0 M N ls st cs 1 (sl + jaIx x) && (jkIn x 100000 && (Nat.ble 4 a && Nat.blt a 7)) then some (is, ls, jkAd cs.length :: st, cs ++ [(100 + a, jaIx x, [])], sl + jaIx x) else none
      | _ => none
    | .putfield _ => match l, st with
      | [ci], v :: .inr (.inr (200, q, 0)) :: st => match cs[q]? with
        | some (k, z, fs) => bif Nat.beq k ci && (Nat.blt ci 12 && (Nat.beq fs.length (jaClN ci).2.2 && (Nat.blt a fs.length && jkFit (jkTyN ci a) v))) then some (is, ls, st, cs.set q (k, z, fs.set a (a, v)), sl) else none
        | none => none
      | _, _ => none
    | .getfield _ => match l, st with
      | [ci], .inr (.inr (200, q, 0)) :: st => match cs[q]? with
        | some (k, _, fs) => bif Nat.beq k ci && (Nat.blt ci 12 && (Nat.beq fs.length (jaClN ci).2.2 && Nat.blt a fs.length)) then some (is, ls, (fs.getD a (0, jkNu)).2 :: st, cs, sl) else none
        | none => none
      | _, _ => none
    | .iastore => match st with
      | .inl v :: .inl x :: .inr (.inr (200, q, 0)) :: st => match cs[q]? with
        | some (k, n, os) => bif Nat.beq k 100 && jkIn x n then some (is, ls, st, cs.set q (k, n, (jaIx x, .inl v) :: os), sl) else none
        | none => none
      | _ => none
    | .lastore => match st with
      | .inr (.inl v) :: .inl x :: .inr (.inr (200, q, 0)) :: st => match cs[q]? with
        | some (k, n, os) => bif Nat.beq k 101 && jkIn x n then some (is, ls, st, cs.set q (k, n, (jaIx x, .inr (.inl v)) :: os), sl) else none
        | none => none
      | _ => none
    | .aastore => match st with
      | .inr (.inr (200, w, 0)) :: .inl x :: .inr (.inr (200, q, 0)) :: st => match cs[q]?, cs[w]? with
        | some (k, n, os), some (ci, _, _) => bif Nat.ble 104 k && (Nat.blt k 107 && (Nat.beq ci (jkCo (k - 100)) && jkIn x n)) then some (is, ls, st, cs.set q (k, n, (jaIx x, .inr (.inr (200, w, 0))) :: os), sl) else none
        | _, _ => none
      | _ => none
    | .iaload => match st with
      | .inl x :: .inr (.inr (200, q, 0)) :: st => match cs[q]? with
        | some (k, n, os) => bif Nat.beq k 100 && jkIn x n then some (is, ls, .inl (jkI os (jaIx x)) :: st, cs, sl) else none
        | none => none
      | _ => none
    | .invokespecial _ => match l, st with
      | [0], .inr (.inr r) :: st => bif Nat.beq r.1 104 || Nat.blt 4 st.length then none else some (is, ls, st, cs, sl)
      | [_], .inr (.inr (200, q, 0)) :: st => bif Nat.blt 4 st.length then none else jkCall Sm c0 M N a [q] is ls st cs sl
      | _, _ => none
    | .invokevirtual _ => match l, st with
      | [_, h], .inr (.inr (200, q, 0)) :: st => bif Nat.blt 4 st.length then none else jkCall Sm c0 M N a [q, h] is ls st cs sl
      | _, _ => none
    | _ => none
/-- till a place -/
def jkRn (Sm : Nat → Option jkZ) (c0 M N : Nat) (f : List jaI) (ps : List Nat) (stop : Nat) : Nat → jkG → Option jkG
  | 0, _ => none
  | n + 1, g => bif Nat.beq (jaPc g.1) stop then some g else match jkSt Sm c0 M N f ps g with
    | some g' => jkRn Sm c0 M N f ps stop n g'
    | none => none
def jkCk1 (own : Nat) (cc : ByteArray) (nL : Nat) (f : List jaI) (ps : List Nat) (pc : Nat) (i : Instr) (a : Nat) (l : List Nat) (is : List jaI) : Bool := match i with
  | .nop => Nat.beq (jaN 0 ps a + is.length) f.length && jaNx is pc
  | .aload_n n => jaD cc pc i 1 && jaNx is (pc + 1)
  | .iload_n n => jaD cc pc i 1 && jaNx is (pc + 1)
  | .istore_n n => jaD cc pc i 1 && jaNx is (pc + 1) && Nat.blt n nL
  | .astore_n n => jaD cc pc i 1 && jaNx is (pc + 1) && Nat.blt n nL
  | .istore n => jaD cc pc i 2 && jaNx is (pc + 2) && Nat.blt n nL
  | .iconst n => jaD cc pc i 1 && jaNx is (pc + 1)
  | .dup => jaD cc pc i 1 && jaNx is (pc + 1)
  | .iastore | .lastore | .aastore | .iaload => jaD cc pc i 1 && jaNx is (pc + 1)
  | .bipush n => jaD cc pc i 2 && jaNx is (pc + 2)
  | .sipush n => jaD cc pc i 3 && jaNx is (pc + 3)
  | .iinc n v => jaD cc pc i 3 && jaNx is (pc + 3) && Nat.blt n nL
  | .goto off => jaD cc pc i 3 && jaTg f ps pc off a
  | .if_icmp _ off => jaD cc pc i 3 && jaNx is (pc + 3) && jaTg f ps pc off a
  | .ldc2_w idx => jaD cc pc i 3 && jaNx is (pc + 3) && jaHas3 (own, idx, a) jkWL
  | .getfield idx => jaD cc pc i 3 && jaNx is (pc + 3) && (match l with
    | [ci] => jaHas4 (own, idx, ci, a) jkWF
    | _ => true)
  | .putfield idx => jaD cc pc i 3 && jaNx is (pc + 3) && (match l with
    | [ci] => jaHas4 (own, idx, ci, a) jkWF && Nat.beq own ci
    | _ => true)
  | .new idx => jaD cc pc i 3 && jaNx is (pc + 3) && jaHas3 (own, idx, a) jkWC
  | .newarray t => jaD cc pc i 2 && jaNx is (pc + 2) && decide (newarray.typeOf t = jkAt a)
  | .anewarray idx => jaD cc pc i 3 && jaNx is (pc + 3) && jaHas3 (own, idx, jkCo a) jkWC
  | .invokespecial idx => jaD cc pc i 3 && jaNx is (pc + 3) && (match l with
    | [0] => jkWO.any fun q => Nat.beq q.1 own && Nat.beq q.2 idx
    | [1] => jaHas3 (own, idx, a) jkWM && !(Nat.beq a 11)
    | [_] => jaHas3 (own, idx, a) jkWK && !(Nat.beq a 11)
    | _ => true)
  | .invokevirtual idx => jaD cc pc i 3 && jaNx is (pc + 3) && (jaHas3 (own, idx, a) jkWM && Nat.beq a 11)
  | _ => true
def jkCk (own : Nat) (cc : ByteArray) (nL : Nat) (f : List jaI) (ps : List Nat) : List jaI → Bool
  | [] => true
  | (pc, i, a, l) :: is => jkCk1 own cc nL f ps pc i a l is && jkCk own cc nL f ps is
theorem jkCk_drop {own : Nat} {cc : ByteArray} {nL : Nat} {f : List jaI} {ps : List Nat} : ∀ (n : Nat) (g : List jaI), jkCk own cc nL f ps g = true → jkCk own cc nL f ps (g.drop n) = true
  | 0, g, h => by rwa [List.drop_zero]
  | n + 1, [], h => by rw [List.drop_nil]; rfl
  | n + 1, (pc, i, a, l) :: g, h => by
    rw [jkCk, Bool.and_eq_true] at h
    rw [List.drop_succ_cons]
    exact jkCk_drop n g h.2
end
