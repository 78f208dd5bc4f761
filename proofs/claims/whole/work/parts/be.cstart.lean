section
/-! the start: a store out of the made cells -/
def jkIv (c : jkC) (j : Nat) : Int32 := if c.1 < 100 then jkIf (c.2.2.getD j (0, jkNu)).2 else jkI c.2.2 j
def jkLv (c : jkC) (j : Nat) : Int64 := if c.1 < 100 then jkLf (c.2.2.getD j (0, jkNu)).2 else jkL c.2.2 j
def jkCl (r : jaR) : jkC := jkcL.getD (jkId r) (0, 0, [])
def jk0 (S21 : jaS) : jaT := fun k => if k = 21 then S21 else (fun o c j => jkIv (jkCl (o, k, c)) j, fun o c j => jkLv (jkCl (o, k, c)) j)
theorem jk0_k {S21 : jaS} {k : Nat} (h : k ≠ 21) : jk0 S21 k = (fun o c j => jkIv (jkCl (o, k, c)) j, fun o c j => jkLv (jkCl (o, k, c)) j) := if_neg h
def jkFw (k c : Nat) (t : Nat × Nat × Nat) (v : jaV) : Bool := match t, v with
  | (3, o', ka), v => jkVb v (jkAd (jkId (o', k + ka, c)))
  | (1, _), .inr (.inl _) => true
  | (0, _), .inl _ => true
  | (2, _), .inl _ => true
  | _, _ => false
theorem jkFm_s {k c z : Nat} {t : Nat × Nat × Nat} {v : jaV} {ts : List (Nat × Nat × Nat)} {fs : List (Nat × jaV)} : jkFm k c (t :: ts) ((z, v) :: fs) = (jkFw k c t v && jkFm k c ts fs) := rfl
theorem jkFm_ok {an0 an : jaR → Nat} {σ : jaT} {o k c : Nat} (han : ∀ r, r ∈ jaRefs → an r = an0 (200, jkId r, 0)) : ∀ (ts : List (Nat × Nat × Nat)) (fs : List (Nat × jaV)) (i : Nat), jkFm k c ts fs = true → (∀ (j o' ka : Nat), ts[j]? = some (3, o', ka) → (o', k + ka, c) ∈ jaRefs) →
    (∀ (j : Nat) (q : Nat × jaV), fs[j]? = some q → (σ k).1 o c (i + j) = jkIf q.2 ∧ (σ k).2 o c (i + j) = jkLf q.2) → jaFvs an σ o k c i ts = fs.map fun q => jaTr an0 .null q.2
  | [], [], _, _, _, _ => rfl
  | [], _ :: _, _, h, _, _ => by cases h
  | _ :: _, [], _, h, _, _ => by cases h
  | t :: ts, (z, v) :: fs, i, h, hr, hv => by
    rw [jkFm_s, Bool.and_eq_true] at h
    have ih := jkFm_ok (σ := σ) (o := o) han ts fs (i + 1) h.2 (fun j o' ka hj => hr (j + 1) o' ka hj) (fun j q hj => by
      rw [show i + 1 + j = i + (j + 1) by omega]
      exact hv (j + 1) q hj)
    rw [jaFvs, ih, List.map_cons]
    have h0 := hv 0 (z, v) rfl
    rw [Nat.add_zero] at h0
    have h1 := h.1
    congr 1
    unfold jkFw at h1
    split at h1
    · rename_i v o' ka
      have hm := hr 0 o' ka rfl
      rw [jkVb_e h1]
      show Value.ref (an (o', k + ka, c)) = Value.ref (an0 (200, jkId (o', k + ka, c), 0))
      rw [han _ hm]
    · rename_i x y
      show Value.long ((σ k).2 o c i) = Value.long y
      rw [h0.2]
      rfl
    · rename_i x y
      show Value.int ((σ k).1 o c i) = Value.int y
      rw [h0.1]
      rfl
    · rename_i x y
      show Value.int ((σ k).1 o c i) = Value.int y
      rw [h0.1]
      rfl
    · cases h1
theorem jkLk_R {an : jaR → Nat} : ∀ (os : List (Nat × jaV)) (j : Nat) (v : jaV), jkLk os j = some v → jkR an os j = jkRf an v
  | [], _, _, h => by cases h
  | (k, w) :: os, j, v, h => by
    rw [jkLk] at h
    rw [jkR]
    cases hb : Nat.beq j k with
    | true =>
      rw [hb] at h
      cases h
      rw [if_pos (Nat.eq_of_beq_eq_true hb)]
    | false =>
      rw [hb] at h
      rw [if_neg (fun z => by rw [z, show Nat.beq k k = true from Nat.beq_refl k] at hb; cases hb)]
      exact jkLk_R os j v h
theorem arrV_c {cI : ClassId} {N : Nat} {f g : Nat → Value} (h : ∀ j, j < N → f j = g j) : arrV cI N f = arrV cI N g := by
  unfold arrV
  congr 2
  funext j
  exact h j.val j.isLt
theorem jkAt_ok {D : va_G} {dA : Nat → ClassId} {an0 an : jaR → Nat} {σ : jaT} {H : Heap} {r : jaR} {c : jkC} {a : Nat} (hr : r ∈ jaRefs) (han : ∀ r, r ∈ jaRefs → an r = an0 (200, jkId r, 0)) (hσ : σ r.2.1 = (fun o c' j => jkIv (jkCl (o, r.2.1, c')) j, fun o c' j => jkLv (jkCl (o, r.2.1, c')) j)) (hc : c = jkCl r) (hm : jkMt r c = true) (h : va_at D jaCl (a, jkE dA an0 c) H) : va_at D jaCl (a, jaCell dA an σ r) H := by
  obtain ⟨o, k, cp⟩ := r
  obtain ⟨kd, n, fs⟩ := c
  have e1 : (σ k).1 o cp = fun j => jkIv (kd, n, fs) j := by
    rw [show σ k = _ from hσ, hc]
  have e2 : (σ k).2 o cp = fun j => jkLv (kd, n, fs) j := by
    rw [show σ k = _ from hσ, hc]
  unfold jkMt at hm
  unfold jaCell
  split at hm
  · rename_i ci t ts hob
    have hob : jaN (99, []) jaOb o = (ci, t :: ts) := hob
    simp only [Bool.and_eq_true] at hm
    obtain ⟨m1, m2, m3⟩ := hm
    have m1 : kd = ci := Nat.eq_of_beq_eq_true m1
    subst m1
    have m2 : kd < 12 := Nat.le_of_ble_eq_true m2
    have hk : kd < 100 := by omega
    rw [jkE_o hk] at h
    show va_at D jaCl (a, match jaN (99, []) jaOb o with | (ci, t :: ts) => .inr (ci, jaFvs an σ o k cp 0 (t :: ts)) | (_, []) => _) H
    rw [hob]
    show va_at D jaCl (a, .inr (kd, jaFvs an σ o k cp 0 (t :: ts))) H
    rw [jkFm_ok (σ := σ) (o := o) han (t :: ts) fs 0 m3 (fun j o' ka hj => ?_) (fun j q hj => ?_)]
    · exact h
    · refine jaOb_closed hr (a := j) ?_
      show (jaN (99, []) jaOb o).2[j]? = _
      rw [hob]
      exact hj
    · rw [Nat.zero_add, e1, e2]
      have hg : fs.getD j (0, jkNu) = q := by
        rw [List.getD_eq_getElem?_getD, hj]
        rfl
      constructor
      · show (if kd < 100 then jkIf (fs.getD j (0, jkNu)).2 else _) = _
        rw [if_pos hk, hg]
      · show (if kd < 100 then jkLf (fs.getD j (0, jkNu)).2 else _) = _
        rw [if_pos hk, hg]
  · rename_i z hob
    have hob : jaN (99, []) jaOb o = (z, []) := hob
    show va_at D jaCl (a, match jaN (99, []) jaOb o with | (ci, t :: ts) => .inr (ci, jaFvs an σ o k cp 0 (t :: ts)) | (_, []) => jaArE dA an σ o k cp (jaN (5, 0, 0, 0, false, false) jaAr o)) H
    rw [hob]
    show va_at D jaCl (a, jaArE dA an σ o k cp (jaN (5, 0, 0, 0, false, false) jaAr o)) H
    have ei : ∀ (h1 : ¬ kd < 100), (fun j => (σ k).1 o cp j) = jkI fs := fun h1 => by
      rw [e1]
      funext j
      exact if_neg h1
    have el : ∀ (h1 : ¬ kd < 100), (fun j => (σ k).2 o cp j) = jkL fs := fun h1 => by
      rw [e2]
      funext j
      exact if_neg h1
    split at hm
    · rename_i n' x har
      rw [Bool.and_eq_true] at hm
      have m1 : kd = 100 := Nat.eq_of_beq_eq_true hm.1
      have m2 : n = n' := Nat.eq_of_beq_eq_true hm.2
      subst m1; subst m2
      rw [show jaN (5, 0, 0, 0, false, false) jaAr o = _ from har]
      show va_at D jaCl (a, .inl (dA 0, n, .inl fun j => (σ k).1 o cp j)) H
      rw [ei (by decide)]
      exact h
    · rename_i n' x har
      rw [Bool.and_eq_true] at hm
      have m1 : kd = 101 := Nat.eq_of_beq_eq_true hm.1
      have m2 : n = n' := Nat.eq_of_beq_eq_true hm.2
      subst m1; subst m2
      rw [show jaN (5, 0, 0, 0, false, false) jaAr o = _ from har]
      show va_at D jaCl (a, .inl (dA 1, n, .inr (.inl fun j => (σ k).2 o cp j))) H
      rw [el (by decide)]
      exact h
    · rename_i n' x har
      rw [Bool.and_eq_true] at hm
      have m1 : kd = 102 := Nat.eq_of_beq_eq_true hm.1
      have m2 : n = n' := Nat.eq_of_beq_eq_true hm.2
      subst m1; subst m2
      rw [show jaN (5, 0, 0, 0, false, false) jaAr o = _ from har]
      show va_at D jaCl (a, .inl (dA 2, n, .inl fun j => (σ k).1 o cp j)) H
      rw [ei (by decide)]
      exact h
    · rename_i n' x har
      rw [Bool.and_eq_true] at hm
      have m1 : kd = 103 := Nat.eq_of_beq_eq_true hm.1
      have m2 : n = n' := Nat.eq_of_beq_eq_true hm.2
      subst m1; subst m2
      rw [show jaN (5, 0, 0, 0, false, false) jaAr o = _ from har]
      show va_at D jaCl (a, .inl (dA 3, n, .inl fun j => (σ k).1 o cp j)) H
      rw [ei (by decide)]
      exact h
    · rename_i n' o' a' fb fd har
      have har : jaN (5, 0, 0, 0, false, false) jaAr o = (4, n', o', a', fb, fd) := har
      simp only [Bool.and_eq_true] at hm
      obtain ⟨m1, m2, m3⟩ := hm
      have m1 := Nat.eq_of_beq_eq_true m1
      have m2 : n = n' := Nat.eq_of_beq_eq_true m2
      subst m2
      rw [har]
      have hkd : 104 ≤ kd ∧ kd - 100 = (if o' = 50 then 4 else if o' = 20 then 5 else 6) := by
        rw [show kd = _ from m1]
        by_cases z1 : o' = 50
        · rw [if_pos z1]; omega
        · rw [if_neg z1]
          by_cases z2 : o' = 20
          · rw [if_pos z2]; omega
          · rw [if_neg z2]; omega
      rw [jkE_r hkd.1, hkd.2] at h
      show H[a]? = some (vp_cell _ _)
      have h : H[a]? = some (vp_cell _ _) := h
      rw [h]
      refine congrArg some ?_
      show arrV _ n (fun j => va_rf (jkR an0 fs j)) = arrV _ n (fun j => va_rf (some (an (o', k + (a' + (bif fb then j else 0)), bif fd then j else 0))))
      refine arrV_c (fun j hj => ?_)
      have hx := List.all_eq_true.mp m3 j (List.mem_range.mpr hj)
      have hcl := jaAr_closed hr har hj
      split at hx
      · rename_i v hv
        rw [jkLk_R fs j v hv, jkVb_e hx]
        show va_rf (some (an0 (200, _, 0))) = _
        rw [han _ hcl]
      · cases hx
    · cases hm
theorem jkHp {D : va_G} {dA : Nat → ClassId} {an0 an : jaR → Nat} {A : Nat → Prop} {H : Heap} {S21 : jaS} (han : ∀ r, r ∈ jaRefs → an r = an0 (200, jkId r, 0)) (hP : va_P D jaCl (jkWs dA an0 jkcL) H) (hD : va_D A (jkWs dA an0 jkcL)) : jaHp D dA an A (jk0 S21) H := by
  have key : ∀ r, r ∈ jaRefs → ∃ c, jkcL[jkId r]? = some c ∧ c = jkCl r ∧ jkMt r c = true := by
    intro r hr
    have h := List.all_eq_true.mp (show (jaRefs.all fun r => Nat.blt (jkId r) jkcL.length && jkMt r (jkcL.getD (jkId r) (0, 0, []))) = true from jkMa_ok) r hr
    rw [Bool.and_eq_true] at h
    have hl : jkId r < jkcL.length := Nat.le_of_ble_eq_true h.1
    refine ⟨jkcL[jkId r], List.getElem?_eq_getElem hl, ?_, ?_⟩
    · unfold jkCl
      rw [List.getD_eq_getElem?_getD, List.getElem?_eq_getElem hl]
      rfl
    · have h2 := h.2
      rw [List.getD_eq_getElem?_getD, List.getElem?_eq_getElem hl] at h2
      exact h2
  have hw : ∀ (k : Nat) (q : Nat × va_E), (jaWs dA an (jk0 S21))[k]? = some q → ∃ r c, jaRefs[k]? = some r ∧ (jkWs dA an0 jkcL)[jkId r]? = some (q.1, jkE dA an0 c) ∧ c = jkCl r ∧ jkMt r c = true ∧ q = (an r, jaCell dA an (jk0 S21) r) := by
    intro k q hq
    simp only [jaWs, List.getElem?_map, Option.map_eq_some_iff] at hq
    obtain ⟨r, hr, rfl⟩ := hq
    obtain ⟨c, h1, h2, h3⟩ := key r (List.mem_of_getElem? hr)
    refine ⟨r, c, hr, ?_, h2, h3, rfl⟩
    rw [jkWs_get, h1]
    show some (an0 (200, jkId r, 0), _) = some (an r, _)
    rw [han r (List.mem_of_getElem? hr)]
  refine ⟨fun k q hq => ?_, fun i j x y hx hy hxy => ?_, fun k q hq => ?_⟩
  · obtain ⟨r, c, h1, h2, h3, h4, rfl⟩ := hw k q hq
    have hr := List.mem_of_getElem? h1
    exact jkAt_ok hr han (jk0_k (jaRefs_sort hr).2.2.1) h3 h4 (hP _ _ h2)
  · obtain ⟨r, c, h1, h2, -⟩ := hw i x hx
    obtain ⟨r', c', h1', h2', -⟩ := hw j y hy
    have := hD.1 _ _ _ _ h2 h2' hxy
    refine va_nd_inj _ jkNd_ok i j (jkId r) ?_ ?_
    · rw [List.getElem?_map, h1]
      rfl
    · rw [List.getElem?_map, h1', this]
      rfl
  · obtain ⟨r, c, h1, h2, -⟩ := hw k q hq
    exact hD.2 _ (q.1, jkE dA an0 c) h2
end
