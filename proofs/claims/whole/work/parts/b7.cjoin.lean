section
/-! a call: the callee's cells among the caller's -/
def jkAc (l : List Nat) (n : Nat) (an : jaR → Nat) : jaR → Nat := fun r => if r.1 = 200 then an (200, jkRo l n r.2.1, 0) else if r.1 = 201 then an (200, r.2.1, 0) else an r
def jkAj (l : List Nat) (n : Nat) (an an1 : jaR → Nat) : jaR → Nat := fun r => if r.1 = 200 ∧ n ≤ r.2.1 then an1 (200, r.2.1 - n + l.length, 0) else an r
theorem jkRv_i {l : List Nat} {n : Nat} {v : jaV} : jkIf (jkRv l n v) = jkIf v ∧ jkLf (jkRv l n v) = jkLf v := by
  rcases v with x | x | r
  · exact ⟨rfl, rfl⟩
  · exact ⟨rfl, rfl⟩
  · have : ∃ r', jkRv l n (.inr (.inr r)) = .inr (.inr r') := by
      by_cases h0 : r.1 = 200
      · exact ⟨_, if_pos h0⟩
      · by_cases h1 : r.1 = 201
        · exact ⟨_, (if_neg h0).trans (if_pos h1)⟩
        · exact ⟨_, (if_neg h0).trans (if_neg h1)⟩
    obtain ⟨r', e⟩ := this
    rw [e]
    exact ⟨rfl, rfl⟩
theorem jkMapI {l : List Nat} {n : Nat} : ∀ (os : List (Nat × jaV)), jkI (os.map fun q => (q.1, jkRv l n q.2)) = jkI os
  | [] => rfl
  | (k, v) :: os => by
    funext j
    rw [List.map_cons, jkI, jkI, jkMapI os, jkRv_i.1]
theorem jkMapL {l : List Nat} {n : Nat} : ∀ (os : List (Nat × jaV)), jkL (os.map fun q => (q.1, jkRv l n q.2)) = jkL os
  | [] => rfl
  | (k, v) :: os => by
    funext j
    rw [List.map_cons, jkL, jkL, jkMapL os, jkRv_i.2]
/-- renamed: the same values, by other addresses -/
theorem jkE_m {dA : Nat → ClassId} {an an1 : jaR → Nat} {l : List Nat} {n : Nat} {c : jkC} (h : ∀ q, q ∈ c.2.2 → jaTr an .null (jkRv l n q.2) = jaTr an1 .null q.2 ∧ jkRf an (jkRv l n q.2) = jkRf an1 q.2) : jkE dA an (jkRc l n c) = jkE dA an1 c := by
  obtain ⟨k, z, os⟩ := c
  have e1 : ((os.map fun q => (q.1, jkRv l n q.2)).map fun q => jaTr an .null q.2) = os.map fun q => jaTr an1 .null q.2 := by
    rw [List.map_map]
    exact List.map_congr_left fun q hm => (h q hm).1
  have e2 : ∀ os : List (Nat × jaV), (∀ q, q ∈ os → jkRf an (jkRv l n q.2) = jkRf an1 q.2) → jkR an (os.map fun q => (q.1, jkRv l n q.2)) = jkR an1 os := by
    intro os
    induction os with
    | nil => intro _; rfl
    | cons q os ih =>
      obtain ⟨k, v⟩ := q
      intro hq
      funext j
      rw [List.map_cons, jkR, jkR, ih (fun q hm => hq q (List.mem_cons_of_mem _ hm)), hq (k, v) List.mem_cons_self]
  show jkE dA an (k, z, os.map fun q => (q.1, jkRv l n q.2)) = jkE dA an1 (k, z, os)
  unfold jkE
  simp only [e1, jkMapI, jkMapL, e2 os (fun q hm => (h q hm).2)]
theorem jkRv_c {l : List Nat} {n : Nat} {an : jaR → Nat} {v : jaV} : jaTr an .null (jkRv l n v) = jaTr (jkAc l n an) .null v ∧ jkRf an (jkRv l n v) = jkRf (jkAc l n an) v := by
  rcases v with x | x | r
  · exact ⟨rfl, rfl⟩
  · exact ⟨rfl, rfl⟩
  · by_cases h0 : r.1 = 200
    · have e : jkRv l n (.inr (.inr r)) = .inr (.inr (200, jkRo l n r.2.1, 0)) := if_pos h0
      have e2 : jkAc l n an r = an (200, jkRo l n r.2.1, 0) := if_pos h0
      rw [e]
      refine ⟨?_, congrArg some e2.symm⟩
      rw [jkTa (r := r) (by rw [h0]; rfl), e2]
      rfl
    · by_cases h1 : r.1 = 201
      · have e : jkRv l n (.inr (.inr r)) = .inr (.inr (200, r.2.1, 0)) := (if_neg h0).trans (if_pos h1)
        have e2 : jkAc l n an r = an (200, r.2.1, 0) := (if_neg h0).trans (if_pos h1)
        rw [e]
        refine ⟨?_, congrArg some e2.symm⟩
        rw [jkTa (r := r) (by rw [h1]; rfl), e2]
        rfl
      · have e : jkRv l n (.inr (.inr r)) = .inr (.inr r) := (if_neg h0).trans (if_neg h1)
        have e2 : jkAc l n an r = an r := (if_neg h0).trans (if_neg h1)
        rw [e]
        refine ⟨?_, congrArg some e2.symm⟩
        show jaAd an .null r = jaAd _ .null r
        unfold jaAd
        rw [e2]
theorem jkE_rn {dA : Nat → ClassId} {l : List Nat} {n : Nat} {an : jaR → Nat} {c : jkC} : jkE dA (jkAc l n an) c = jkE dA an (jkRc l n c) := (jkE_m fun _ _ => jkRv_c).symm
/-- behind the call -/
theorem jkRv_j {l : List Nat} {n N1 : Nat} {an an1 : jaR → Nat} {v : jaV} (hl : ∀ (i k : Nat), l[i]? = some k → k < n) (h1 : ∀ r : jaR, (r.1 ≠ 200 ∨ r.2.1 < l.length) → an1 r = jkAc l n an r) (hv : jkVo N1 v = true) (hx : jkVx n v = true) :
    jaTr (jkAj l n an an1) .null (jkRv l n v) = jaTr an1 .null v ∧ jkRf (jkAj l n an an1) (jkRv l n v) = jkRf an1 v := by
  rcases v with x | x | r
  · exact ⟨rfl, rfl⟩
  · exact ⟨rfl, rfl⟩
  · by_cases h0 : r.1 = 200
    · have e : jkRv l n (.inr (.inr r)) = .inr (.inr (200, jkRo l n r.2.1, 0)) := if_pos h0
      have hr2 := (jkVo_r hv h0).2
      have e2 : jkAj l n an an1 (200, jkRo l n r.2.1, 0) = an1 r := by
        have er : r = (200, r.2.1, 0) := by rw [← h0, ← hr2]
        by_cases hi : r.2.1 < l.length
        · have hg : l[r.2.1]? = some l[r.2.1] := List.getElem?_eq_getElem hi
          have ho : jkRo l n r.2.1 = l[r.2.1] := by unfold jkRo; rw [hg]; rfl
          have hk := hl _ _ hg
          rw [ho, h1 r (Or.inr hi)]
          refine (if_neg (fun z => ?_)).trans ?_
          · have : n ≤ l[r.2.1] := z.2
            omega
          · unfold jkAc
            rw [if_pos h0, ho]
        · have hg : l[r.2.1]? = none := List.getElem?_eq_none (by omega)
          have ho : jkRo l n r.2.1 = n + (r.2.1 - l.length) := by unfold jkRo; rw [hg]; rfl
          rw [ho]
          refine (if_pos ⟨rfl, by show n ≤ n + _; omega⟩).trans ?_
          show an1 (200, n + (r.2.1 - l.length) - n + l.length, 0) = an1 r
          rw [show n + (r.2.1 - l.length) - n + l.length = r.2.1 by omega, ← er]
      rw [e]
      refine ⟨?_, congrArg some e2⟩
      rw [jkTa (r := r) (by rw [h0]; rfl), ← e2]
      rfl
    · by_cases h2 : r.1 = 201
      · have e : jkRv l n (.inr (.inr r)) = .inr (.inr (200, r.2.1, 0)) := (if_neg h0).trans (if_pos h2)
        have hx2 : r.2.1 < n := by
          simp only [jkVx, Bool.or_eq_true, h2] at hx
          rcases hx with hx | hx
          · cases hx
          · exact Nat.le_of_ble_eq_true hx
        have e2 : jkAj l n an an1 (200, r.2.1, 0) = an1 r := by
          rw [h1 r (Or.inl h0)]
          refine (if_neg (fun z => ?_)).trans ?_
          · have : n ≤ r.2.1 := z.2
            omega
          · exact ((if_neg h0).trans (if_pos h2)).symm
        rw [e]
        refine ⟨?_, congrArg some e2⟩
        rw [jkTa (r := r) (by rw [h2]; rfl), ← e2]
        rfl
      · have e : jkRv l n (.inr (.inr r)) = .inr (.inr r) := (if_neg h0).trans (if_neg h2)
        have e2 : jkAj l n an an1 r = an1 r := by
          rw [h1 r (Or.inl h0)]
          exact (if_neg (fun z => h0 z.1)).trans ((if_neg h0).trans (if_neg h2)).symm
        rw [e]
        refine ⟨?_, congrArg some e2⟩
        show jaAd _ .null r = jaAd _ .null r
        unfold jaAd
        rw [e2]
theorem jkPs_some : ∀ {l : List Nat} {k j : Nat}, jkPs l k = some j → l[j]? = some k
  | a :: l, k, j, h => by
    rw [jkPs] at h
    by_cases q : k = a
    · rw [if_pos q] at h
      cases h
      rw [q]
      rfl
    · rw [if_neg q] at h
      cases hp : jkPs l k with
      | none => rw [hp] at h; cases h
      | some i =>
        rw [hp] at h
        cases h
        rw [List.getElem?_cons_succ]
        exact jkPs_some hp
theorem jkPs_none : ∀ {l : List Nat} {k : Nat}, jkPs l k = none → k ∉ l
  | [], k, _ => List.not_mem_nil
  | a :: l, k, h => by
    rw [jkPs] at h
    by_cases q : k = a
    · rw [if_pos q] at h
      cases h
    · rw [if_neg q] at h
      cases hp : jkPs l k with
      | none =>
        intro hm
        rcases List.mem_cons.mp hm with z | z
        · exact q z
        · exact jkPs_none hp z
      | some i => rw [hp] at h; cases h
theorem jkJn_get {l : List Nat} {cs c1 : List jkC} {k : Nat} {c' : jkC} (hl : l.length ≤ c1.length) (h : (jkJn l cs c1)[k]? = some c') : (∃ j c, c1[j]? = some c ∧ c' = jkRc l cs.length c ∧ k = jkRo l cs.length j) ∨ (k < cs.length ∧ k ∉ l ∧ cs[k]? = some c') := by
  unfold jkJn at h
  rw [List.getElem?_map] at h
  by_cases hk : k < cs.length + (c1.length - l.length)
  · rw [List.getElem?_range hk] at h
    have h := Option.some.inj h
    dsimp only at h
    cases hp : jkPs l k with
    | some j =>
      rw [hp] at h
      have h0 := jkPs_some hp
      have hj : j < l.length := (List.getElem?_eq_some_iff.mp h0).1
      have hj1 : j < c1.length := by omega
      refine Or.inl ⟨j, c1[j], List.getElem?_eq_getElem hj1, ?_, ?_⟩
      · have hd : c1.getD j (0, 0, []) = c1[j] := by
          rw [List.getD_eq_getElem?_getD, List.getElem?_eq_getElem hj1]
          rfl
        rw [← h]
        show jkRc l cs.length (c1.getD j (0, 0, [])) = _
        rw [hd]
      · unfold jkRo
        rw [h0]
        rfl
    | none =>
      rw [hp] at h
      by_cases q : k < cs.length
      · simp only [q, if_true] at h
        refine Or.inr ⟨q, jkPs_none hp, ?_⟩
        rw [← h, List.getD_eq_getElem?_getD, List.getElem?_eq_getElem q]
        rfl
      · simp only [q, if_false] at h
        have hj1 : k - cs.length + l.length < c1.length := by omega
        refine Or.inl ⟨k - cs.length + l.length, c1[k - cs.length + l.length], List.getElem?_eq_getElem hj1, ?_, ?_⟩
        · rw [← h, List.getD_eq_getElem?_getD, List.getElem?_eq_getElem hj1]
          rfl
        · unfold jkRo
          rw [List.getElem?_eq_none (by omega)]
          show k = cs.length + (k - cs.length + l.length - l.length)
          omega
  · rw [List.getElem?_eq_none (by rw [List.length_range]; omega)] at h
    cases h
theorem jkJn_len {l : List Nat} {cs c1 : List jkC} : (jkJn l cs c1).length = cs.length + (c1.length - l.length) := by
  unfold jkJn
  rw [List.length_map, List.length_range]
/-- the two worlds as one -/
theorem jkJoin {D : va_G} {dA : Nat → ClassId} {A : Nat → Prop} {an an1 : jaR → Nat} {l : List Nat} {cs ci0 ci1 : List jkC} {H H1 : Heap} (hP : va_P D jaCl (jkWs dA an cs) H) (hD : va_D A (jkWs dA an cs)) (hcs : jkOc cs.length cs = true) (hs : l.map (fun i => (jkWs dA an cs)[i]?) = (jkWs dA (jkAc l cs.length an) ci0).map some)
    (hl : ∀ (i k : Nat), l[i]? = some k → k < cs.length) (h0 : ci0.length = l.length) (hlc : l.length ≤ ci1.length) (h1o : jkOc ci1.length ci1 = true) (h1x : jkOx cs.length ci1 = true)
    (hk : ∀ q : Nat, q < H.size → ¬ va_A (jkWs dA (jkAc l cs.length an) ci0) H.size q → H1[q]? = H[q]?) (hF : ∀ q, va_A (jkWs dA (jkAc l cs.length an) ci0) H.size q → A q) (h1 : ∀ r : jaR, (r.1 ≠ 200 ∨ r.2.1 < ci0.length) → an1 r = jkAc l cs.length an r) (hP1 : va_P D jaCl (jkWs dA an1 ci1) H1) (hD1 : va_D (va_A (jkWs dA (jkAc l cs.length an) ci0) H.size) (jkWs dA an1 ci1)) :
    va_P D jaCl (jkWs dA (jkAj l cs.length an an1) (jkJn l cs ci1)) H1 ∧ va_D A (jkWs dA (jkAj l cs.length an an1) (jkJn l cs ci1)) := by
  rw [h0] at h1
  have hsm : jkSm cs.length an (jkAj l cs.length an an1) := by
    intro r hr
    exact if_neg (fun z => by have := (hr z.1).1; have := z.2; omega)
  -- of each cell: the callee's, or one that stayed
  have key : ∀ (k : Nat) (q : Nat × va_E), (jkWs dA (jkAj l cs.length an an1) (jkJn l cs ci1))[k]? = some q → (∃ j, (jkWs dA an1 ci1)[j]? = some q ∧ k = jkRo l cs.length j) ∨ ((jkWs dA an cs)[k]? = some q ∧ q.1 < H.size ∧ ¬ va_A (jkWs dA (jkAc l cs.length an) ci0) H.size q.1) := by
    intro k q hq
    obtain ⟨c', hc', rfl⟩ := jkWs_some hq
    rcases jkJn_get hlc hc' with ⟨j, c, g1, rfl, rfl⟩ | ⟨g1, g2, g3⟩
    · left
      refine ⟨j, ?_, rfl⟩
      have hc := List.mem_of_getElem? g1
      have hj : j < ci1.length := (List.getElem?_eq_some_iff.mp g1).1
      have e1 := List.all_eq_true.mp h1o c hc
      have e2 := List.all_eq_true.mp h1x c hc
      rw [jkWs_get, g1]
      show some (_, _) = some (_, _)
      rw [jkE_m (an1 := an1) (fun q hm => jkRv_j hl h1 (List.all_eq_true.mp e1 q hm) (List.all_eq_true.mp e2 q hm))]
      have ea := (jkRv_j (N1 := ci1.length) (v := jkAd j) hl h1 (by show (!(Nat.beq 200 200) || (Nat.blt j ci1.length && Nat.beq 0 0)) = true; rw [show Nat.blt j ci1.length = true from Nat.ble_eq.mpr hj]; rfl) rfl).2
      have ea : some (jkAj l cs.length an an1 (200, jkRo l cs.length j, 0)) = some (an1 (200, j, 0)) := ea
      rw [Option.some.inj ea]
    · right
      have hc := List.mem_of_getElem? g3
      have e1 := List.all_eq_true.mp hcs c' hc
      have e3 : (jkWs dA an cs)[k]? = some (jkAj l cs.length an an1 (200, k, 0), jkE dA (jkAj l cs.length an an1) c') := by
        rw [jkWs_get, g3]
        show some (_, _) = some (_, _)
        rw [jkE_c hsm e1, hsm (200, k, 0) (fun _ => ⟨g1, rfl⟩)]
      refine ⟨e3, (hP k _ e3).lt, ?_⟩
      rintro (⟨k2, e, h2⟩ | h2)
      · have h3 : (l.map fun i => (jkWs dA an cs)[i]?)[k2]? = some (some (jkAj l cs.length an an1 (200, k, 0), e)) := by
          rw [hs, List.getElem?_map, h2]
          rfl
        rw [List.getElem?_map] at h3
        cases hi : l[k2]? with
        | none => rw [hi] at h3; cases h3
        | some i =>
          rw [hi] at h3
          have h3 := Option.some.inj h3
          have := hD.1 k i _ _ e3 h3 rfl
          rw [this] at g2
          exact g2 (List.mem_of_getElem? hi)
      · have := (hP k _ e3).lt
        omega
  refine ⟨fun k q hq => ?_, fun i k x y hx hy hxy => ?_, fun k q hq => ?_⟩
  · rcases key k q hq with ⟨j, h2, -⟩ | ⟨h2, h3, h4⟩
    · exact hP1 j q h2
    · exact (hP k q h2).kept (hk q.1 h3 h4)
  · rcases key i x hx with ⟨j, h2, h3⟩ | ⟨h2, h3, h4⟩
    · rcases key k y hy with ⟨j', h2', h3'⟩ | ⟨h2', h3', h4'⟩
      · rw [h3, h3', hD1.1 j j' x y h2 h2' hxy]
      · exact absurd (by rw [← hxy]; exact hD1.2 j x h2) h4'
    · rcases key k y hy with ⟨j', h2', h3'⟩ | ⟨h2', h3', h4'⟩
      · exact absurd (by rw [hxy]; exact hD1.2 j' y h2') h4
      · exact hD.1 i k x y h2 h2' hxy
  · rcases key k q hq with ⟨j, h2, -⟩ | ⟨h2, -, -⟩
    · exact hF q.1 (hD1.2 j q h2)
    · exact hD.2 k q h2
end
