section
/-! fields, elements -/
end
section
variable {p : Program} {l : Launch} {e : Env} {R : Room} {s : State} {m : MethodId} {args : Array Value} {below : List Frame} {meth : Method} {c : Code} {D : va_G} {dA : Nat → ClassId} {A : Nat → Prop} {cc : ByteArray} {nL own : Nat} {f : List jaI} {ps : List Nat} {Sm : Nat → Option jkZ} {c0 M N : Nat} {an0 : jaR → Nat} {Qm : State → Prop}
theorem jkFit_ok {ty : FieldType} {v : jaV} {an : jaR → Nat} (h : jkFit ty v = true) : narrow ty (jaTr an .null v) = jaTr an .null v ∧ fits ty (jaTr an .null v) = true := by
  rcases v with x | x | r
  · cases ty <;> first | exact ⟨rfl, rfl⟩ | cases h
  · cases ty <;> cases h
  · cases ty
    case object C =>
      have h1 : Nat.beq r.1 104 = false := by
        cases hb : Nat.beq r.1 104 with
        | false => rfl
        | true => simp [jkFit, hb] at h
      rw [jkTa h1]
      exact ⟨rfl, rfl⟩
    case array t =>
      have h1 : Nat.beq r.1 104 = false := by
        cases hb : Nat.beq r.1 104 with
        | false => rfl
        | true => simp [jkFit, hb] at h
      rw [jkTa h1]
      exact ⟨rfl, rfl⟩
    all_goals cases h
set_option maxHeartbeats 1000000 in
theorem jkS_putfield {pc a sl : Nat} {lx : List Nat} {is : List jaI} {ls : List (Option jaV)} {st : List jaV} {cs : List jkC} {g' : jkG} (hx : p.tables.exec = Jvm.exec) (hb : c.code = cc) (hml : c.maxLocals = nL) (hown : s.vm.findClass (jaN "" jaOn own) = some m.cls) (hts : ∀ w ∈ lw_tbl, goodWord w = true → w.before args s = true) (hE : jkEnv D dA s) (hA : ∀ q, s.heap.size ≤ q → A q) (hM : M ≤ R.cells) (hN : N ≤ R.slots) {idx : Nat} (hin : meth.name = "<init>") (hsuf : ∃ n : Nat, is = f.drop n) (hc : jkCk1 own cc nL f ps pc (.putfield idx) a lx is = true) (h : jkSt Sm c0 M N f ps ((pc, .putfield idx, a, lx) :: is, ls, st, cs, sl) = some g') :
    (∃ n : Nat, g'.1 = f.drop n) ∧ (jkW p l e R s m args below meth c D dA A nL c0 an0 Qm g' → jkW p l e R s m args below meth c D dA A nL c0 an0 Qm ((pc, .putfield idx, a, lx) :: is, ls, st, cs, sl)) := by
  have hTB : ∀ w ∈ jaTB, w.before args s = true := fun w hw => hts w (List.mem_filter.mp hw).1 (List.mem_filter.mp hw).2
  simp only [jkCk1, Bool.and_eq_true] at hc
  have hd := jaD_ok hc.1.1
  have hn : jaPc is = pc + 3 := Nat.eq_of_beq_eq_true hc.1.2
  have hc2 := hc.2
  dsimp only [jkSt] at h
  split at h
  · rename_i ci v q st'
    split at h
    · rename_i k z fs hcs
      obtain ⟨h1, rfl⟩ := jkBt h
      simp only [Bool.and_eq_true] at h1 hc2
      obtain ⟨h1, h2, h3, h4, h5⟩ := h1
      have e1 := Nat.eq_of_beq_eq_true h1
      subst e1
      have h12 : k < 12 := Nat.le_of_ble_eq_true h2
      have hlen := Nat.eq_of_beq_eq_true h3
      have ha4 : a < fs.length := Nat.le_of_ble_eq_true h4
      have hlk : jaWFw (own, idx, k, a) ∈ lw_tbl := jaOk_in jkWF_ok _ (jaHas4_in hc2.1)
      have hown2 := Nat.eq_of_beq_eq_true hc2.2
      subst hown2
      have hg := jkCl_get own h12
      have hf := jaCl_facts (C := (jaClN own).1) (T := (jaClN own).2.1) (N := (jaClN own).2.2) hg
      have hws : ∀ w ∈ u_ws (jaClN own).1 (jaClN own).2.1 (jaClN own).2.2, w ∈ jaTB := fun w hw => jaTB_in (hf.2.2 w hw) (jaLay_good hw)
      have haN : a < (jaClN own).2.2 := by omega
      have hdc := jkCl_dc own h12 a haN
      refine ⟨hsuf, fun k an H locs lsA ha hl hP hD hS => ?_⟩
      dsimp only at hl hP hD k ⊢
      obtain ⟨f1, f2⟩ := jkFit_ok (an := an) h5
      have he : (jkWs dA an cs)[q]? = some (an (200, q, 0), .inr (own, fs.map fun q => jaTr an .null q.2)) := by
        rw [jkWs_get, hcs]
        exact congrArg (fun z => some (an (200, q, 0), z)) (jkE_o (by omega))
      have K : ∀ H1 locs1, va_P D jaCl ((jkWs dA an cs).set q (an (200, q, 0), .inr (own, (fs.map fun q => jaTr an .null q.2).set a (jaTr an .null v)))) H1 → va_D A ((jkWs dA an cs).set q (an (200, q, 0), .inr (own, (fs.map fun q => jaTr an .null q.2).set a (jaTr an .null v)))) → va_S A s.heap H1 locs1 → W p l e R s m args below meth c H1 locs1 (cs.length - c0) sl Qm (F0 m (pc + 3) lsA (st'.map (jaTr an .null))) := by
        intro H1 locs1 hP1 hD1 hS1
        have e2 : (jkWs dA an cs).set q (an (200, q, 0), .inr (own, (fs.map fun q => jaTr an .null q.2).set a (jaTr an .null v))) = jkWs dA an (cs.set q (own, z, fs.set a (a, v))) := by
          rw [← jkWs_set, jkE_o (by omega), List.map_set]
        rw [e2] at hP1 hD1
        have q9 := k an H1 locs1 lsA ha hl hP1 hD1 hS1
        rw [hn, List.length_set] at q9
        exact q9
      cases hfin : ((jaClN own).2.1 a).2.2.2 with
      | true => exact va_putF (own := jaN "" jaOn own) (ref := (jaClN own).1) (ci := own) (C := (jaClN own).1) (T := (jaClN own).2.1) (N := (jaClN own).2.2) hx hb hTB hws (jkTyN own) (jkTy_ok own h12) hf.2.1 hown hE.1 hP hD hS q he hg a haN (hts _ hlk rfl) (fun x h => by rw [← hdc]; exact h) hfin hin (by rw [hdc, jkCl_on own h12]) (jkTy_ok own h12 a haN) f1 f2 (by rw [List.length_map]; exact ha4) hd K
      | false => exact va_put (own := jaN "" jaOn own) (ref := (jaClN own).1) (ci := own) (C := (jaClN own).1) (T := (jaClN own).2.1) (N := (jaClN own).2.2) hx hb hTB hws (jkTyN own) (jkTy_ok own h12) hf.2.1 hown hE.1 hP hD hS q he hg a haN (hts _ hlk rfl) (fun x h => by rw [← hdc]; exact h) hfin (jkTy_ok own h12 a haN) f1 f2 (by rw [List.length_map]; exact ha4) hd K
    · cases h
  · cases h
set_option maxHeartbeats 1000000 in
theorem jkS_getfield {pc a sl : Nat} {lx : List Nat} {is : List jaI} {ls : List (Option jaV)} {st : List jaV} {cs : List jkC} {g' : jkG} (hx : p.tables.exec = Jvm.exec) (hb : c.code = cc) (hml : c.maxLocals = nL) (hown : s.vm.findClass (jaN "" jaOn own) = some m.cls) (hts : ∀ w ∈ lw_tbl, goodWord w = true → w.before args s = true) (hE : jkEnv D dA s) (hA : ∀ q, s.heap.size ≤ q → A q) (hM : M ≤ R.cells) (hN : N ≤ R.slots) {idx : Nat} (hsuf : ∃ n : Nat, is = f.drop n) (hc : jkCk1 own cc nL f ps pc (.getfield idx) a lx is = true) (h : jkSt Sm c0 M N f ps ((pc, .getfield idx, a, lx) :: is, ls, st, cs, sl) = some g') :
    (∃ n : Nat, g'.1 = f.drop n) ∧ (jkW p l e R s m args below meth c D dA A nL c0 an0 Qm g' → jkW p l e R s m args below meth c D dA A nL c0 an0 Qm ((pc, .getfield idx, a, lx) :: is, ls, st, cs, sl)) := by
  have hTB : ∀ w ∈ jaTB, w.before args s = true := fun w hw => hts w (List.mem_filter.mp hw).1 (List.mem_filter.mp hw).2
  simp only [jkCk1, Bool.and_eq_true] at hc
  have hd := jaD_ok hc.1.1
  have hn : jaPc is = pc + 3 := Nat.eq_of_beq_eq_true hc.1.2
  have hc2 := hc.2
  dsimp only [jkSt] at h
  split at h
  · rename_i ci q st'
    split at h
    · rename_i k z fs hcs
      obtain ⟨h1, rfl⟩ := jkBt h
      simp only [Bool.and_eq_true] at h1
      obtain ⟨h1, h2, h3, h4⟩ := h1
      have e1 := Nat.eq_of_beq_eq_true h1
      subst e1
      have h12 : k < 12 := Nat.le_of_ble_eq_true h2
      have hlen := Nat.eq_of_beq_eq_true h3
      have ha4 : a < fs.length := Nat.le_of_ble_eq_true h4
      have hlk : jaWFw (own, idx, k, a) ∈ lw_tbl := jaOk_in jkWF_ok _ (jaHas4_in hc2)
      have hg := jkCl_get k h12
      have hf := jaCl_facts (C := (jaClN k).1) (T := (jaClN k).2.1) (N := (jaClN k).2.2) hg
      have hws : ∀ w ∈ u_ws (jaClN k).1 (jaClN k).2.1 (jaClN k).2.2, w ∈ jaTB := fun w hw => jaTB_in (hf.2.2 w hw) (jaLay_good hw)
      have haN : a < (jaClN k).2.2 := by omega
      have hdc := jkCl_dc k h12 a haN
      refine ⟨hsuf, fun kk an H locs lsA ha hl hP hD hS => ?_⟩
      dsimp only at hl hP hD kk ⊢
      have he : (jkWs dA an cs)[q]? = some (an (200, q, 0), .inr (k, fs.map fun q => jaTr an .null q.2)) := by
        rw [jkWs_get, hcs]
        exact congrArg (fun z => some (an (200, q, 0), z)) (jkE_o (by omega))
      have q9 := kk an H locs lsA ha hl hP hD hS
      rw [hn] at q9
      refine va_get (own := jaN "" jaOn own) (ref := (jaClN k).1) (ci := k) (C := (jaClN k).1) (T := (jaClN k).2.1) (N := (jaClN k).2.2) hx hb hTB hws hown hE.1 hP q he hg a haN (hts _ hlk rfl) (fun x h => by rw [← hdc]; exact h) (v := jaTr an .null (fs.getD a (0, jkNu)).2) ?_ hd q9
      rw [List.getElem?_map, List.getElem?_eq_getElem ha4, List.getD_eq_getElem?_getD, List.getElem?_eq_getElem ha4]
      rfl
    · cases h
  · cases h
set_option maxHeartbeats 1000000 in
theorem jkS_iastore {pc a sl : Nat} {lx : List Nat} {is : List jaI} {ls : List (Option jaV)} {st : List jaV} {cs : List jkC} {g' : jkG} (hx : p.tables.exec = Jvm.exec) (hb : c.code = cc) (hml : c.maxLocals = nL) (hown : s.vm.findClass (jaN "" jaOn own) = some m.cls) (hts : ∀ w ∈ lw_tbl, goodWord w = true → w.before args s = true) (hE : jkEnv D dA s) (hA : ∀ q, s.heap.size ≤ q → A q) (hM : M ≤ R.cells) (hN : N ≤ R.slots) (hsuf : ∃ n : Nat, is = f.drop n) (hc : jkCk1 own cc nL f ps pc (.iastore) a lx is = true) (h : jkSt Sm c0 M N f ps ((pc, .iastore, a, lx) :: is, ls, st, cs, sl) = some g') :
    (∃ n : Nat, g'.1 = f.drop n) ∧ (jkW p l e R s m args below meth c D dA A nL c0 an0 Qm g' → jkW p l e R s m args below meth c D dA A nL c0 an0 Qm ((pc, .iastore, a, lx) :: is, ls, st, cs, sl)) := by
  simp only [jkCk1, Bool.and_eq_true] at hc
  have hd := jaD_ok hc.1
  have hn : jaPc is = pc + 1 := Nat.eq_of_beq_eq_true hc.2
  dsimp only [jkSt] at h
  split at h
  · rename_i v x q st'
    split at h
    · rename_i k n os hcs
      obtain ⟨h1, rfl⟩ := jkBt h
      rw [Bool.and_eq_true] at h1
      have e1 := Nat.eq_of_beq_eq_true h1.1
      subst e1
      have hv := jkIn_vp h1.2
      refine ⟨hsuf, fun kk an H locs lsA ha hl hP hD hS => ?_⟩
      dsimp only at hl hP hD kk ⊢
      have he : (jkWs dA an cs)[q]? = some (an (200, q, 0), jkE dA an (100, n, os)) := by
        rw [jkWs_get, hcs]
        rfl
      rw [(jkE_i (Nat.le_refl _) (by decide) (by decide))] at he
      refine va_iast hx hb hE.1 hP hD hS q 0 he (jkTy_g dA 0 (by decide)) hv hd (fun H1 locs1 hP1 hD1 hS1 => ?_)
      have e2 := jkWs_set (dA := dA) (an := an) (cs := cs) (k := q) (c := (100, n, (jaIx x, .inl v) :: os))
      rw [(jkE_i (Nat.le_refl _) (by decide) (by decide))] at e2
      have q9 := kk an H1 locs1 lsA ha hl (by rw [← e2]; exact hP1) (by rw [← e2]; exact hD1) hS1
      rw [hn, List.length_set] at q9
      exact q9
    · cases h
  · cases h
set_option maxHeartbeats 1000000 in
theorem jkS_lastore {pc a sl : Nat} {lx : List Nat} {is : List jaI} {ls : List (Option jaV)} {st : List jaV} {cs : List jkC} {g' : jkG} (hx : p.tables.exec = Jvm.exec) (hb : c.code = cc) (hml : c.maxLocals = nL) (hown : s.vm.findClass (jaN "" jaOn own) = some m.cls) (hts : ∀ w ∈ lw_tbl, goodWord w = true → w.before args s = true) (hE : jkEnv D dA s) (hA : ∀ q, s.heap.size ≤ q → A q) (hM : M ≤ R.cells) (hN : N ≤ R.slots) (hsuf : ∃ n : Nat, is = f.drop n) (hc : jkCk1 own cc nL f ps pc (.lastore) a lx is = true) (h : jkSt Sm c0 M N f ps ((pc, .lastore, a, lx) :: is, ls, st, cs, sl) = some g') :
    (∃ n : Nat, g'.1 = f.drop n) ∧ (jkW p l e R s m args below meth c D dA A nL c0 an0 Qm g' → jkW p l e R s m args below meth c D dA A nL c0 an0 Qm ((pc, .lastore, a, lx) :: is, ls, st, cs, sl)) := by
  simp only [jkCk1, Bool.and_eq_true] at hc
  have hd := jaD_ok hc.1
  have hn : jaPc is = pc + 1 := Nat.eq_of_beq_eq_true hc.2
  dsimp only [jkSt] at h
  split at h
  · rename_i v x q st'
    split at h
    · rename_i k n os hcs
      obtain ⟨h1, rfl⟩ := jkBt h
      rw [Bool.and_eq_true] at h1
      have e1 := Nat.eq_of_beq_eq_true h1.1
      subst e1
      have hv := jkIn_vp h1.2
      refine ⟨hsuf, fun kk an H locs lsA ha hl hP hD hS => ?_⟩
      dsimp only at hl hP hD kk ⊢
      have he : (jkWs dA an cs)[q]? = some (an (200, q, 0), jkE dA an (101, n, os)) := by
        rw [jkWs_get, hcs]
        rfl
      rw [jkE_l] at he
      refine va_last hx hb hE.1 hP hD hS q 1 he (jkTy_g dA 1 (by decide)) hv hd (fun H1 locs1 hP1 hD1 hS1 => ?_)
      have e2 := jkWs_set (dA := dA) (an := an) (cs := cs) (k := q) (c := (101, n, (jaIx x, .inr (.inl v)) :: os))
      rw [jkE_l] at e2
      have q9 := kk an H1 locs1 lsA ha hl (by rw [← e2]; exact hP1) (by rw [← e2]; exact hD1) hS1
      rw [hn, List.length_set] at q9
      exact q9
    · cases h
  · cases h
set_option maxHeartbeats 1000000 in
theorem jkS_iaload {pc a sl : Nat} {lx : List Nat} {is : List jaI} {ls : List (Option jaV)} {st : List jaV} {cs : List jkC} {g' : jkG} (hx : p.tables.exec = Jvm.exec) (hb : c.code = cc) (hml : c.maxLocals = nL) (hown : s.vm.findClass (jaN "" jaOn own) = some m.cls) (hts : ∀ w ∈ lw_tbl, goodWord w = true → w.before args s = true) (hE : jkEnv D dA s) (hA : ∀ q, s.heap.size ≤ q → A q) (hM : M ≤ R.cells) (hN : N ≤ R.slots) (hsuf : ∃ n : Nat, is = f.drop n) (hc : jkCk1 own cc nL f ps pc (.iaload) a lx is = true) (h : jkSt Sm c0 M N f ps ((pc, .iaload, a, lx) :: is, ls, st, cs, sl) = some g') :
    (∃ n : Nat, g'.1 = f.drop n) ∧ (jkW p l e R s m args below meth c D dA A nL c0 an0 Qm g' → jkW p l e R s m args below meth c D dA A nL c0 an0 Qm ((pc, .iaload, a, lx) :: is, ls, st, cs, sl)) := by
  simp only [jkCk1, Bool.and_eq_true] at hc
  have hd := jaD_ok hc.1
  have hn : jaPc is = pc + 1 := Nat.eq_of_beq_eq_true hc.2
  dsimp only [jkSt] at h
  split at h
  · rename_i x q st'
    split at h
    · rename_i k n os hcs
      obtain ⟨h1, rfl⟩ := jkBt h
      rw [Bool.and_eq_true] at h1
      have e1 := Nat.eq_of_beq_eq_true h1.1
      subst e1
      have hv := jkIn_vp h1.2
      refine ⟨hsuf, fun kk an H locs lsA ha hl hP hD hS => ?_⟩
      dsimp only at hl hP hD kk ⊢
      have he : (jkWs dA an cs)[q]? = some (an (200, q, 0), jkE dA an (100, n, os)) := by
        rw [jkWs_get, hcs]
        rfl
      rw [jkE_i (Nat.le_refl _) (by decide) (by decide)] at he
      refine va_iald hx hb hE.1 hP q 0 he (jkTy_g dA 0 (by decide)) hv hd ?_
      have q9 := kk an H locs lsA ha hl hP hD hS
      rw [hn] at q9
      exact q9
    · cases h
  · cases h
set_option maxHeartbeats 1000000 in
theorem jkS_aastore {pc a sl : Nat} {lx : List Nat} {is : List jaI} {ls : List (Option jaV)} {st : List jaV} {cs : List jkC} {g' : jkG} (hx : p.tables.exec = Jvm.exec) (hb : c.code = cc) (hml : c.maxLocals = nL) (hown : s.vm.findClass (jaN "" jaOn own) = some m.cls) (hts : ∀ w ∈ lw_tbl, goodWord w = true → w.before args s = true) (hE : jkEnv D dA s) (hA : ∀ q, s.heap.size ≤ q → A q) (hM : M ≤ R.cells) (hN : N ≤ R.slots) (hsuf : ∃ n : Nat, is = f.drop n) (hc : jkCk1 own cc nL f ps pc (.aastore) a lx is = true) (h : jkSt Sm c0 M N f ps ((pc, .aastore, a, lx) :: is, ls, st, cs, sl) = some g') :
    (∃ n : Nat, g'.1 = f.drop n) ∧ (jkW p l e R s m args below meth c D dA A nL c0 an0 Qm g' → jkW p l e R s m args below meth c D dA A nL c0 an0 Qm ((pc, .aastore, a, lx) :: is, ls, st, cs, sl)) := by
  simp only [jkCk1, Bool.and_eq_true] at hc
  have hd := jaD_ok hc.1
  have hn : jaPc is = pc + 1 := Nat.eq_of_beq_eq_true hc.2
  dsimp only [jkSt] at h
  split at h
  · rename_i w x q st'
    split at h
    · rename_i k n os ci z2 fs2 hcs hcw
      obtain ⟨h1, rfl⟩ := jkBt h
      simp only [Bool.and_eq_true] at h1
      obtain ⟨h1, h2, h3, h4⟩ := h1
      have k1 : 104 ≤ k := Nat.le_of_ble_eq_true h1
      have k2 : k < 107 := Nat.le_of_ble_eq_true h2
      have k3 := Nat.eq_of_beq_eq_true h3
      have hv := jkIn_vp h4
      obtain ⟨hg, ht, hci⟩ : jaCl[ci]? = some (jaClN ci) ∧ jkAt (k - 100) = .object (jaClN ci).1 ∧ ci < 12 := by
        rw [k3]
        have : k = 104 ∨ k = 105 ∨ k = 106 := by omega
        rcases this with rfl | rfl | rfl
        · exact ⟨rfl, rfl, by decide⟩
        · exact ⟨rfl, rfl, by decide⟩
        · exact ⟨rfl, rfl, by decide⟩
      refine ⟨hsuf, fun kk an H locs lsA ha hl hP hD hS => ?_⟩
      dsimp only at hl hP hD kk ⊢
      have he : (jkWs dA an cs)[q]? = some (an (200, q, 0), jkE dA an (k, n, os)) := by
        rw [jkWs_get, hcs]
        rfl
      rw [jkE_r k1] at he
      have he2 : (jkWs dA an cs)[w]? = some (an (200, w, 0), .inr (ci, fs2.map fun q => jaTr an .null q.2)) := by
        rw [jkWs_get, hcw]
        exact congrArg (fun z => some (an (200, w, 0), z)) (jkE_o (by omega))
      have hty := jkTy_g dA (k - 100) (by omega)
      rw [ht] at hty
      refine va_astq hx hb hE.1 hP hD hS q (k - 100) w ci he hty he2 hg hv hd (fun H1 locs1 hP1 hD1 hS1 => ?_)
      have e2 := jkWs_set (dA := dA) (an := an) (cs := cs) (k := q) (c := (k, n, (jaIx x, .inr (.inr (200, w, 0))) :: os))
      rw [jkE_r k1] at e2
      have q9 := kk an H1 locs1 lsA ha hl (by rw [← e2]; exact hP1) (by rw [← e2]; exact hD1) hS1
      rw [hn, List.length_set] at q9
      exact q9
    · cases h
  · cases h
end
