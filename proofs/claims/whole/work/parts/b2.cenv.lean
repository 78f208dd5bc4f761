section
/-! the machine of constructors tells what the machine does -/
theorem jkCl_get : ∀ ci, ci < 12 → jaCl[ci]? = some (jaClN ci)
  | 0, _ => rfl
  | 1, _ => rfl
  | 2, _ => rfl
  | 3, _ => rfl
  | 4, _ => rfl
  | 5, _ => rfl
  | 6, _ => rfl
  | 7, _ => rfl
  | 8, _ => rfl
  | 9, _ => rfl
  | 10, _ => rfl
  | 11, _ => rfl
  | n + 12, h => absurd h (by omega)
theorem jkCl_dc : ∀ ci, ci < 12 → ∀ k, k < (jaClN ci).2.2 → ((jaClN ci).2.1 k).1 = (jaClN ci).1 := by decide +kernel
theorem jkCl_on : ∀ ci, ci < 12 → jaN "" jaOn ci = (jaClN ci).1 := by decide +kernel
theorem jkCl_df : ∀ ci, ci < 12 → ∀ j, j < (jaClN ci).2.2 → defaultValue (jkTyN ci j) = vp_V ((jkDef ci).map fun q => jaTr (fun _ => 0) .null q.2) j := by decide +kernel
theorem jkCl_nu : ∀ ci, ci < 12 → ((jkDef ci).all fun q => match q.2 with | .inr (.inr r) => Nat.beq r.1 104 | _ => true) = true := by decide +kernel
theorem jkCl_or {ci : Nat} (h : ci < 12) (an : jaR → Nat) : ((jkDef ci).map fun q => jaTr an .null q.2) = (jkDef ci).map fun q => jaTr (fun _ => 0) .null q.2 := by
  refine List.map_congr_left fun q hm => ?_
  have h1 := List.all_eq_true.mp (jkCl_nu ci h) q hm
  obtain ⟨k, v⟩ := q
  rcases v with x | x | r
  · rfl
  · rfl
  · have h1 : Nat.beq r.1 104 = true := h1
    show jaAd an .null r = jaAd (fun _ => 0) .null r
    unfold jaAd
    rw [h1]
    rfl
theorem jkCl_vo {ci n : Nat} (h : ci < 12) : ((jkDef ci).all fun q => jkVo n q.2) = true := by
  refine List.all_eq_true.mpr fun q hm => ?_
  have h1 := List.all_eq_true.mp (jkCl_nu ci h) q hm
  obtain ⟨k, v⟩ := q
  rcases v with x | x | r
  · rfl
  · rfl
  · have h1 : Nat.beq r.1 104 = true := h1
    have h2 := Nat.eq_of_beq_eq_true h1
    show (!(Nat.beq r.1 200) || _) = true
    rw [h2]
    rfl
theorem jkE_o {dA : Nat → ClassId} {an : jaR → Nat} {k z : Nat} {fs : List (Nat × jaV)} (h : k < 100) : jkE dA an (k, z, fs) = .inr (k, fs.map fun q => jaTr an .null q.2) := if_pos h
theorem jkE_i {dA : Nat → ClassId} {an : jaR → Nat} {k z : Nat} {fs : List (Nat × jaV)} (h : 100 ≤ k) (h1 : k ≠ 101) (h2 : k < 104) : jkE dA an (k, z, fs) = .inl (dA (k - 100), z, .inl (jkI fs)) := by
  unfold jkE
  rw [if_neg (by show ¬ k < 100; omega), if_neg h1, if_pos h2]
theorem jkE_l {dA : Nat → ClassId} {an : jaR → Nat} {z : Nat} {fs : List (Nat × jaV)} : jkE dA an (101, z, fs) = .inl (dA 1, z, .inr (.inl (jkL fs))) := rfl
theorem jkE_r {dA : Nat → ClassId} {an : jaR → Nat} {k z : Nat} {fs : List (Nat × jaV)} (h : 104 ≤ k) : jkE dA an (k, z, fs) = .inl (dA (k - 100), z, .inr (.inr (.inr (.inr (jkR an fs))))) := by
  unfold jkE
  rw [if_neg (by show ¬ k < 100; omega), if_neg (by show ¬ k = 101; omega), if_neg (by show ¬ k < 104; omega)]
def jkEnv (D : va_G) (dA : Nat → ClassId) (U : State) : Prop := va_K D jaCl (jaTys dA) U ∧ (∀ e, e ∈ jkWK → va_Nw (jkWKw e) U) ∧ va_AO "AgreedInput$Copy" U ∧ va_AO "AgreedInput$Sentence" U ∧ va_AO "AgreedInput$State" U
theorem jkEnv.moved {D : va_G} {dA : Nat → ClassId} {u U : State} (hW : u.WarmedH U.vm) (h : jkEnv D dA u) : jkEnv D dA U :=
  ⟨va_K.moved hW.alike h.1, fun e he => va_Nw.warmM hW (h.2.1 e he), va_AO.moved hW.alike h.2.2.1, va_AO.moved hW.alike h.2.2.2.1, va_AO.moved hW.alike h.2.2.2.2⟩
theorem jkEnv.same {D : va_G} {dA : Nat → ClassId} {u U : State} (hv : U.vm = u.vm) (h : jkEnv D dA u) : jkEnv D dA U := by
  have ha : u.vm.Alike U.vm := by rw [hv]; exact Vm.Alike.refl _
  exact ⟨va_K.moved ha h.1, fun e he => va_Nw.same rfl hv.symm (h.2.1 e he), va_AO.moved ha h.2.2.1, va_AO.moved ha h.2.2.2.1, va_AO.moved ha h.2.2.2.2⟩
def jkPre (D : va_G) (dA : Nat → ClassId) (sz : Nat) (an : jaR → Nat) (cs : List jkC) (U : State) : Prop := U.heap.size = sz ∧ va_P D jaCl (jkWs dA an cs) U.heap ∧ jkEnv D dA U ∧ va_D (fun _ => True) (jkWs dA an cs)
theorem jkPre_blind {D : va_G} {dA : Nat → ClassId} {sz : Nat} {an : jaR → Nat} {cs : List jkC} {as : List Value} : FrameBlind (va_Pc as (jkPre D dA sz an cs)) := by
  intro a U g mk q
  exact ⟨q.1, q.2.1, q.2.2.1, jkEnv.same (u := U) (U := U.calling g mk a) rfl q.2.2.2.1, q.2.2.2.2⟩
def jkWds (y : Nat) : List Jvm.Cond := jkYw2 (jkY y) :: jaTB
def jkDp (y : Nat) : Nat := jaN 2 [2, 2, 2, 2, 2, 2, 3, 2, 2, 2, 4, 2, 3] y
def jkRm (y : Nat) (z : jkZ) : Room := { frames := jkDp y, cells := z.2.1.length - z.1.length, slots := z.2.2, locals := 64 * jkDp y }
def jkMet (l : Launch) (D : va_G) (dA : Nat → ClassId) (y : Nat) (z : jkZ) : Prop := ∀ (an : jaR → Nat) (sz : Nat), Met l (jkY y).1 (jkWds y) (jkRm y z) (va_Pc [.ref (an (200, 0, 0))] (jkPre D dA sz an z.1))
  (va_Qv (S := jaR → Nat) (fun an1 => ∀ r : jaR, (r.1 ≠ 200 ∨ r.2.1 < z.1.length) → an1 r = an r) (fun an1 t => va_P D jaCl (jkWs dA an1 z.2.1) t.heap ∧ va_D (va_A (jkWs dA an z.1) sz) (jkWs dA an1 z.2.1)) (va_A (jkWs dA an z.1) sz)) (z.2.1.length - z.1.length) z.2.2 (va_A (jkWs dA an z.1) sz)
theorem jkBt {α : Type} {b : Bool} {x : α} {y : α} (h : (bif b then some x else none) = some y) : b = true ∧ x = y := by
  cases b
  · cases h
  · exact ⟨rfl, Option.some.inj h⟩
theorem jkBf {α : Type} {b : Bool} {x : α} {y : α} (h : (bif b then none else some x) = some y) : b = false ∧ x = y := by
  cases b
  · exact ⟨rfl, Option.some.inj h⟩
  · cases h
theorem jkBn {α : Type} {b : Bool} {x : Option α} {y : α} (h : (bif b then none else x) = some y) : b = false ∧ x = some y := by
  cases b
  · exact ⟨rfl, h⟩
  · cases h
theorem jkOk_e {c0 M N m sl : Nat} {ls : List (Option jaV)} {st : List jaV} {cs : List jkC} (h : jkOk c0 M N ls st cs m sl = true) : jkOl cs.length ls = true ∧ jkOs cs.length st = true ∧ jkOc cs.length cs = true ∧ c0 ≤ cs.length ∧ cs.length + m ≤ c0 + M ∧ sl ≤ N := by
  simp only [jkOk, Bool.and_eq_true] at h
  obtain ⟨h1, h2, h3, h4, h5, h6⟩ := h
  exact ⟨h1, h2, h3, Nat.le_of_ble_eq_true h4, Nat.le_of_ble_eq_true h5, Nat.le_of_ble_eq_true h6⟩
theorem jkIn_e {x : Int32} {n : Nat} (h : jkIn x n = true) : ¬ x < 0 ∧ jaIx x < n := by
  simp only [jkIn, Bool.and_eq_true] at h
  exact ⟨of_decide_eq_true h.1, Nat.le_of_ble_eq_true h.2⟩
theorem jkIn_vp {x : Int32} {n : Nat} (h : jkIn x n = true) : vp_in x n := by
  obtain ⟨h1, h2⟩ := jkIn_e h
  exact fun q => q.elim h1 (fun q => absurd h2 (Nat.not_lt.mpr q))
theorem jkTy_g (dA : Nat → ClassId) : ∀ t, t < 7 → (jaTys dA)[t]? = some (dA t, jkAt t)
  | 0, _ => rfl
  | 1, _ => rfl
  | 2, _ => rfl
  | 3, _ => rfl
  | 4, _ => rfl
  | 5, _ => rfl
  | 6, _ => rfl
  | n + 7, h => absurd h (by omega)
theorem jkTa {an : jaR → Nat} {r : jaR} (h : Nat.beq r.1 104 = false) : jaTr an .null (.inr (.inr r)) = .ref (an r) := by
  show jaAd an .null r = _
  unfold jaAd
  rw [h]
  rfl
end
