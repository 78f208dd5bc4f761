section
/-! making: objects, arrays -/
end
section
variable {p : Program} {l : Launch} {e : Env} {R : Room} {s : State} {m : MethodId} {args : Array Value} {below : List Frame} {meth : Method} {c : Code} {D : va_G} {dA : Nat → ClassId} {A : Nat → Prop} {cc : ByteArray} {nL own : Nat} {f : List jaI} {ps : List Nat} {Sm : Nat → Option jkZ} {c0 M N : Nat} {an0 : jaR → Nat} {Qm : State → Prop}
set_option maxHeartbeats 1000000 in
theorem jkS_new {pc a sl : Nat} {lx : List Nat} {is : List jaI} {ls : List (Option jaV)} {st : List jaV} {cs : List jkC} {g' : jkG} (hx : p.tables.exec = Jvm.exec) (hb : c.code = cc) (hml : c.maxLocals = nL) (hown : s.vm.findClass (jaN "" jaOn own) = some m.cls) (hts : ∀ w ∈ lw_tbl, goodWord w = true → w.before args s = true) (hE : jkEnv D dA s) (hA : ∀ q, s.heap.size ≤ q → A q) (hM : M ≤ R.cells) (hN : N ≤ R.slots) {idx : Nat} (hsuf : ∃ n : Nat, is = f.drop n) (hc : jkCk1 own cc nL f ps pc (.new idx) a lx is = true) (h : jkSt Sm c0 M N f ps ((pc, .new idx, a, lx) :: is, ls, st, cs, sl) = some g') :
    (∃ n : Nat, g'.1 = f.drop n) ∧ (jkW p l e R s m args below meth c D dA A nL c0 an0 Qm g' → jkW p l e R s m args below meth c D dA A nL c0 an0 Qm ((pc, .new idx, a, lx) :: is, ls, st, cs, sl)) := by
  have hTB : ∀ w ∈ jaTB, w.before args s = true := fun w hw => hts w (List.mem_filter.mp hw).1 (List.mem_filter.mp hw).2
  simp only [jkCk1, Bool.and_eq_true] at hc
  have hd := jaD_ok hc.1.1
  have hn : jaPc is = pc + 3 := Nat.eq_of_beq_eq_true hc.1.2
  have hlk : jkWCw (own, idx, a) ∈ lw_tbl := jaOk_in jkWC_ok _ (jaHas3_in hc.2)
  dsimp only [jkSt] at h
  obtain ⟨h1, rfl⟩ := jkBt h
  rw [Bool.and_eq_true] at h1
  obtain ⟨h1, h2⟩ := h1
  have h12 : a < 12 := Nat.le_of_ble_eq_true h2
  obtain ⟨k1, k2, k3, k4, k5, k6⟩ := jkOk_e h1
  refine ⟨hsuf, fun k an H locs lsA ha hl hP hD hS => ?_⟩
  dsimp only at hl hP hD k ⊢
  have hg := jkCl_get a h12
  have hm : jaClN a ∈ jaCl := List.mem_of_getElem? hg
  have hws : ∀ w ∈ u_ws (jaClN a).1 (jaClN a).2.1 (jaClN a).2.2, w ∈ jaTB := fun w hw => jaTB_in ((jaCl_facts (C := (jaClN a).1) (T := (jaClN a).2.1) (N := (jaClN a).2.2) hg).2.2 w hw) (jaLay_good hw)
  refine va_new (ci := a) (C := (jaClN a).1) (T := (jaClN a).2.1) (N := (jaClN a).2.2) (fs := (jkDef a).map fun q => jaTr an .null q.2) hx hb hTB hws (jkTyN a) (jkTy_ok a h12) hown (hts _ hlk rfl) (hts _ (jaOk_in jkCl_ok0 _ hm) rfl) (hts _ (jaOk_in jkCl_ok1 _ hm) rfl) hE.1 hP hD hS hA hg (by rw [jkCl_or h12]; exact jkCl_df a h12) (by omega) (by omega) hd (fun q H1 hP1 hD1 hS1 => ?_)
  have e0 : jkE dA an (a, 0, jkDef a) = .inr (a, (jkDef a).map fun q => jaTr an .null q.2) := jkE_o (by omega)
  have e1 := jkWs_push (dA := dA) (an := an) (cs := cs) (c := (a, 0, jkDef a)) (q := q) k3 (jkCl_vo h12)
  rw [e0] at e1
  have q9 := k (jkUp an cs.length q) H1 locs lsA (fun r hr => ?_) (jkLh_c jkUp_s k1 hl) (by rw [e1]; exact hP1) (by rw [e1]; exact hD1) hS1
  · dsimp only at q9
    rw [hn, List.map_cons, jkMap_c jkUp_s k2, (show (cs ++ [((a, 0, jkDef a) : jkC)]).length - c0 = cs.length - c0 + 1 from (by rw [List.length_append, List.length_singleton]; omega))] at q9
    have e2 : jaTr (jkUp an cs.length q) .null (jkAd cs.length) = .ref q := by
      show Value.ref (jkUp an cs.length q (200, cs.length, 0)) = _
      rw [jkUp_e]
    rw [e2] at q9
    exact q9
  · rw [← ha r hr]
    refine if_neg ?_
    rintro rfl
    rcases hr with hr | hr
    · exact hr rfl
    · exact absurd hr (by show ¬ cs.length < c0; omega)
theorem jkArr_u {s : State} {ty : FieldType} {c1 c2 : ClassId} (h1 : va_RA s c1 ty) (h2 : va_RA s c2 ty) (hp : ty = .int ∨ ty = .long ∨ ty = .boolean ∨ ty = .byte ∨ ∃ C, ty = .object C) : c1 = c2 := by
  rcases hp with rfl | rfl | rfl | rfl | ⟨C, rfl⟩
  · exact Option.some.inj (Eq.trans (Eq.symm h1) h2)
  · exact Option.some.inj (Eq.trans (Eq.symm h1) h2)
  · exact Option.some.inj (Eq.trans (Eq.symm h1) h2)
  · exact Option.some.inj (Eq.trans (Eq.symm h1) h2)
  · obtain ⟨-, -, -, -, -, h1⟩ := h1
    obtain ⟨-, -, -, -, -, h2⟩ := h2
    exact Option.some.inj (h1.symm.trans h2)
theorem jkAC_of {t : Nat} (h : t < 4) : Jvm.Cond.arrayClass (jkAt t) ∈ lw_tbl := by
  have : t = 0 ∨ t = 1 ∨ t = 2 ∨ t = 3 := by omega
  rcases this with rfl | rfl | rfl | rfl
  · exact jkAC0
  · exact jkAC1
  · exact jkAC2
  · exact jkAC3
/-- an array as it came -/
theorem jkE_a {dA : Nat → ClassId} {an : jaR → Nat} {t n : Nat} (h : t < 4) : ∃ a0 : vp_A, jkE dA an (100 + t, n, []) = .inl (dA t, a0) ∧ ∀ cA : ClassId, vp_cell cA a0 = arrV cA n (fun _ => defaultValue (jkAt t)) := by
  have : t = 0 ∨ t = 1 ∨ t = 2 ∨ t = 3 := by omega
  rcases this with rfl | rfl | rfl | rfl
  · exact ⟨_, rfl, fun _ => rfl⟩
  · exact ⟨_, rfl, fun _ => rfl⟩
  · exact ⟨_, rfl, fun _ => rfl⟩
  · exact ⟨_, rfl, fun _ => rfl⟩
theorem jkCb {t : Nat} (h : t < 4) : componentBytes (jkAt t) ≤ 8 := by
  have : t = 0 ∨ t = 1 ∨ t = 2 ∨ t = 3 := by omega
  rcases this with rfl | rfl | rfl | rfl <;> decide
set_option maxHeartbeats 1000000 in
theorem jkS_newarray {pc a sl : Nat} {lx : List Nat} {is : List jaI} {ls : List (Option jaV)} {st : List jaV} {cs : List jkC} {g' : jkG} (hx : p.tables.exec = Jvm.exec) (hb : c.code = cc) (hml : c.maxLocals = nL) (hown : s.vm.findClass (jaN "" jaOn own) = some m.cls) (hts : ∀ w ∈ lw_tbl, goodWord w = true → w.before args s = true) (hE : jkEnv D dA s) (hA : ∀ q, s.heap.size ≤ q → A q) (hM : M ≤ R.cells) (hN : N ≤ R.slots) {t : ArrayType} (hsuf : ∃ n : Nat, is = f.drop n) (hc : jkCk1 own cc nL f ps pc (.newarray t) a lx is = true) (h : jkSt Sm c0 M N f ps ((pc, .newarray t, a, lx) :: is, ls, st, cs, sl) = some g') :
    (∃ n : Nat, g'.1 = f.drop n) ∧ (jkW p l e R s m args below meth c D dA A nL c0 an0 Qm g' → jkW p l e R s m args below meth c D dA A nL c0 an0 Qm ((pc, .newarray t, a, lx) :: is, ls, st, cs, sl)) := by
  have hTB : ∀ w ∈ jaTB, w.before args s = true := fun w hw => hts w (List.mem_filter.mp hw).1 (List.mem_filter.mp hw).2
  simp only [jkCk1, Bool.and_eq_true] at hc
  have hd := jaD_ok hc.1.1
  have hn : jaPc is = pc + 2 := Nat.eq_of_beq_eq_true hc.1.2
  have hty : newarray.typeOf t = jkAt a := of_decide_eq_true hc.2
  dsimp only [jkSt] at h
  split at h
  · rename_i x st'
    obtain ⟨h1, rfl⟩ := jkBt h
    simp only [Bool.and_eq_true] at h1
    obtain ⟨h1, h2, h3⟩ := h1
    have h4 : a < 4 := Nat.le_of_ble_eq_true h3
    obtain ⟨k1, k2, k3, k4, k5, k6⟩ := jkOk_e h1
    obtain ⟨x1, x2⟩ := jkIn_e h2
    refine ⟨hsuf, fun k an H locs lsA ha hl hP hD hS => ?_⟩
    dsimp only at hl hP hD k ⊢
    obtain ⟨a0, e0, ec⟩ := jkE_a (dA := dA) (an := an) (n := jaIx x) h4
    have hAC := hts _ (jkAC_of h4) rfl
    rw [← hty] at hAC
    have hcb := jkCb h4
    refine va_newa (ty := jkAt a) (a0 := a0) (N' := jaIx x) hx hb hAC hty hE.1 hP hD hS hA ec x1 rfl (by
      have : jaIx x * componentBytes (jkAt a) ≤ 100000 * 8 := Nat.mul_le_mul (by omega) hcb
      omega) (by omega) (by omega) hd (fun q cA H1 hK1 hP1 hD1 hS1 => ?_)
    have hcA : cA = dA a := by
      have g1 := (hK1.2 7 (cA, jkAt a) (by rw [List.getElem?_append_right (by exact Nat.le_refl 7)]; rfl)).2
      have g2 := (hE.1.2 a (dA a, jkAt a) (jkTy_g dA a (by omega))).2
      refine jkArr_u g1 g2 ?_
      have : a = 0 ∨ a = 1 ∨ a = 2 ∨ a = 3 := by omega
      rcases this with rfl | rfl | rfl | rfl
      · exact Or.inl rfl
      · exact Or.inr (Or.inl rfl)
      · exact Or.inr (Or.inr (Or.inl rfl))
      · exact Or.inr (Or.inr (Or.inr (Or.inl rfl)))
    subst hcA
    have e1 := jkWs_push (dA := dA) (an := an) (cs := cs) (c := (100 + a, jaIx x, [])) (q := q) k3 rfl
    rw [e0] at e1
    have k2' : jkOs cs.length st' = true := k2
    clear k2
    have k2 := k2'
    have q9 := k (jkUp an cs.length q) H1 locs lsA (fun r hr => ?_) (jkLh_c jkUp_s k1 hl) (by rw [e1]; exact hP1) (by rw [e1]; exact hD1) hS1
    · dsimp only at q9
      rw [hn, List.map_cons, jkMap_c jkUp_s k2, (show (cs ++ [((100 + a, jaIx x, []) : jkC)]).length - c0 = cs.length - c0 + 1 from (by rw [List.length_append, List.length_singleton]; omega))] at q9
      have e2 : jaTr (jkUp an cs.length q) .null (jkAd cs.length) = .ref q := by
        show Value.ref (jkUp an cs.length q (200, cs.length, 0)) = _
        rw [jkUp_e]
      rw [e2] at q9
      exact q9
    · rw [← ha r hr]
      refine if_neg ?_
      rintro rfl
      rcases hr with hr | hr
      · exact hr rfl
      · exact absurd hr (by show ¬ cs.length < c0; omega)
  · cases h
set_option maxHeartbeats 1000000 in
theorem jkS_anewarray {pc a sl : Nat} {lx : List Nat} {is : List jaI} {ls : List (Option jaV)} {st : List jaV} {cs : List jkC} {g' : jkG} (hx : p.tables.exec = Jvm.exec) (hb : c.code = cc) (hml : c.maxLocals = nL) (hown : s.vm.findClass (jaN "" jaOn own) = some m.cls) (hts : ∀ w ∈ lw_tbl, goodWord w = true → w.before args s = true) (hE : jkEnv D dA s) (hA : ∀ q, s.heap.size ≤ q → A q) (hM : M ≤ R.cells) (hN : N ≤ R.slots) {idx : Nat} (hsuf : ∃ n : Nat, is = f.drop n) (hc : jkCk1 own cc nL f ps pc (.anewarray idx) a lx is = true) (h : jkSt Sm c0 M N f ps ((pc, .anewarray idx, a, lx) :: is, ls, st, cs, sl) = some g') :
    (∃ n : Nat, g'.1 = f.drop n) ∧ (jkW p l e R s m args below meth c D dA A nL c0 an0 Qm g' → jkW p l e R s m args below meth c D dA A nL c0 an0 Qm ((pc, .anewarray idx, a, lx) :: is, ls, st, cs, sl)) := by
  have hTB : ∀ w ∈ jaTB, w.before args s = true := fun w hw => hts w (List.mem_filter.mp hw).1 (List.mem_filter.mp hw).2
  simp only [jkCk1, Bool.and_eq_true] at hc
  have hd := jaD_ok hc.1.1
  have hn : jaPc is = pc + 3 := Nat.eq_of_beq_eq_true hc.1.2
  have hlk : jkWCw (own, idx, jkCo a) ∈ lw_tbl := jaOk_in jkWC_ok _ (jaHas3_in hc.2)
  dsimp only [jkSt] at h
  split at h
  · rename_i x st'
    obtain ⟨h1, rfl⟩ := jkBt h
    simp only [Bool.and_eq_true] at h1
    obtain ⟨h1, h2, h3, h3'⟩ := h1
    have h4 : 4 ≤ a := Nat.le_of_ble_eq_true h3
    have h7 : a < 7 := Nat.le_of_ble_eq_true h3'
    obtain ⟨k1, k2, k3, k4, k5, k6⟩ := jkOk_e h1
    obtain ⟨x1, x2⟩ := jkIn_e h2
    obtain ⟨C, hC, hao⟩ : ∃ C, jkAt a = .object C ∧ va_AO C s ∧ (jaClN (jkCo a)).1 = C := by
      have : a = 4 ∨ a = 5 ∨ a = 6 := by omega
      rcases this with rfl | rfl | rfl
      · exact ⟨_, rfl, hE.2.2.1, rfl⟩
      · exact ⟨_, rfl, hE.2.2.2.1, rfl⟩
      · exact ⟨_, rfl, hE.2.2.2.2, rfl⟩
    have hcl : (Jvm.Cond.classLink (jaN "" jaOn own) idx C).before args s = true := by
      rw [← hao.2]
      exact hts _ hlk rfl
    refine ⟨hsuf, fun k an H locs lsA ha hl hP hD hS => ?_⟩
    dsimp only at hl hP hD k ⊢
    refine va_newq (C := C) (N' := jaIx x) hx hb hown hcl hao.1 hE.1 hP hD hS hA x1 rfl (by omega) (by omega) (by omega) hd (fun q cA H1 hK1 hP1 hD1 hS1 => ?_)
    have hcA : cA = dA a := by
      have g1 := (hK1.2 7 (cA, .object C) (by rw [List.getElem?_append_right (by exact Nat.le_refl 7)]; rfl)).2
      have g2 := (hE.1.2 a (dA a, jkAt a) (jkTy_g dA a (by omega))).2
      rw [hC] at g2
      exact jkArr_u g1 g2 (Or.inr (Or.inr (Or.inr (Or.inr ⟨C, rfl⟩))))
    subst hcA
    have e0 : jkE dA an (100 + a, jaIx x, []) = .inl (dA a, jaIx x, .inr (.inr (.inr (.inr (fun _ => none))))) := by
      rw [jkE_r (by omega), show 100 + a - 100 = a by omega]
      rfl
    have e1 := jkWs_push (dA := dA) (an := an) (cs := cs) (c := (100 + a, jaIx x, [])) (q := q) k3 rfl
    rw [e0] at e1
    have k2' : jkOs cs.length st' = true := k2
    clear k2
    have k2 := k2'
    have q9 := k (jkUp an cs.length q) H1 locs lsA (fun r hr => ?_) (jkLh_c jkUp_s k1 hl) (by rw [e1]; exact hP1) (by rw [e1]; exact hD1) hS1
    · dsimp only at q9
      rw [hn, List.map_cons, jkMap_c jkUp_s k2, (show (cs ++ [((100 + a, jaIx x, []) : jkC)]).length - c0 = cs.length - c0 + 1 from (by rw [List.length_append, List.length_singleton]; omega))] at q9
      have e2 : jaTr (jkUp an cs.length q) .null (jkAd cs.length) = .ref q := by
        show Value.ref (jkUp an cs.length q (200, cs.length, 0)) = _
        rw [jkUp_e]
      rw [e2] at q9
      exact q9
    · rw [← ha r hr]
      refine if_neg ?_
      rintro rfl
      rcases hr with hr | hr
      · exact hr rfl
      · exact absurd hr (by show ¬ cs.length < c0; omega)
  · cases h
end
