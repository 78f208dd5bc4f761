section
/-! calls of constructors -/
theorem jkY_mem : ∀ y, y < 13 → jkY y ∈ jkYt
  | 0, _ => List.mem_of_getElem? (i := 0) rfl
  | 1, _ => List.mem_of_getElem? (i := 1) rfl
  | 2, _ => List.mem_of_getElem? (i := 2) rfl
  | 3, _ => List.mem_of_getElem? (i := 3) rfl
  | 4, _ => List.mem_of_getElem? (i := 4) rfl
  | 5, _ => List.mem_of_getElem? (i := 5) rfl
  | 6, _ => List.mem_of_getElem? (i := 6) rfl
  | 7, _ => List.mem_of_getElem? (i := 7) rfl
  | 8, _ => List.mem_of_getElem? (i := 8) rfl
  | 9, _ => List.mem_of_getElem? (i := 9) rfl
  | 10, _ => List.mem_of_getElem? (i := 10) rfl
  | 11, _ => List.mem_of_getElem? (i := 11) rfl
  | 12, _ => List.mem_of_getElem? (i := 12) rfl
  | n + 13, h => absurd h (by omega)
theorem jkY_mh : ∀ y, y < 13 → (jkY y).1.cls ≠ "java/lang/invoke/MethodHandle" ∧ (jkY y).1.cls ≠ "java/lang/invoke/VarHandle" ∧ (parseMethodDescriptor (jkY y).1.desc).map (fun d => d.parameters.length) = some 0 ∧ (jkY y).2.2.1 ≤ 2 ∧ (y ≠ 11 → (jkY y).1.name = "<init>") := by decide +kernel
theorem jkWds_good {y : Nat} (hy : y < 13) : GoodIn jaTB (jkWds y) := by
  intro w hw
  rcases List.mem_cons.mp hw with rfl | hw
  · exact ⟨jaTB_in (jkY_ok2 _ (jkY_mem y hy)) rfl, good_of_word rfl⟩
  · exact ⟨hw, good_of_word (List.mem_filter.mp hw).2⟩
theorem jaCat_le : ∀ st : List jaV, jaCat st ≤ 2 * st.length
  | [] => Nat.le_refl _
  | .inl _ :: st => by have := jaCat_le st; show 1 + _ ≤ 2 * (_ + 1); omega
  | .inr (.inl _) :: st => by have := jaCat_le st; show 2 + _ ≤ 2 * (_ + 1); omega
  | .inr (.inr _) :: st => by have := jaCat_le st; show 1 + _ ≤ 2 * (_ + 1); omega
theorem jkCats {an : jaR → Nat} {st : List jaV} (h : st.length ≤ 4) : ((st.map (jaTr an .null)).map fun v => v.category).sum ≤ 8 := by
  have h1 := jaCats (an := an) (sv := .null) (Or.inl rfl) st
  have h2 := jaCat_le st
  omega
def jkOkS (l : Launch) (D : va_G) (dA : Nat → ClassId) (R : Room) (Sm : Nat → Option jkZ) : Prop := ∀ (y : Nat) (z : jkZ), Sm y = some z → y < 13 ∧ jkMet l D dA y z ∧ jkDp y + 1 ≤ R.frames ∧ 64 * (jkDp y + 1) ≤ R.locals ∧ (y = 11 → ∃ (n : Nat) (fs : List (Nat × jaV)) (t : List jkC), z.1 = (11, n, fs) :: t)
abbrev jkQv (D : va_G) (dA : Nat → ClassId) (an : jaR → Nat) (sz : Nat) (z : jkZ) : Array Value → State → Outcome → State → Prop := va_Qv (S := jaR → Nat) (fun an1 => ∀ r : jaR, (r.1 ≠ 200 ∨ r.2.1 < z.1.length) → an1 r = an r) (fun an1 t => va_P D jaCl (jkWs dA an1 z.2.1) t.heap ∧ va_D (va_A (jkWs dA an z.1) sz) (jkWs dA an1 z.2.1)) (va_A (jkWs dA an z.1) sz)
theorem jkRc_k {l : List Nat} {n : Nat} {c : jkC} : (jkRc l n c).1 = c.1 := rfl
end
section
variable {p : Program} {l : Launch} {e : Env} {R : Room} {s : State} {m : MethodId} {args : Array Value} {below : List Frame} {meth : Method} {c : Code} {D : va_G} {dA : Nat → ClassId} {A : Nat → Prop} {cc : ByteArray} {nL own : Nat} {f : List jaI} {ps : List Nat} {Sm : Nat → Option jkZ} {c0 M N : Nat} {an0 : jaR → Nat} {Qm : State → Prop}
set_option maxHeartbeats 1000000 in
theorem jkCall_ok {y q pc sl : Nat} {l2 : List Nat} {is : List jaI} {ls : List (Option jaV)} {st : List jaV} {cs : List jkC} {g' : jkG} (hx : p.tables.exec = Jvm.exec) (hb : c.code = cc) (hml : c.maxLocals = nL) (hown : s.vm.findClass (jaN "" jaOn own) = some m.cls) (hts : ∀ w ∈ lw_tbl, goodWord w = true → w.before args s = true) (hE : jkEnv D dA s) (hA : ∀ q, s.heap.size ≤ q → A q) (hM : M ≤ R.cells) (hN : N ≤ R.slots) (hSm : jkOkS l D dA R Sm) (hsuf : ∃ n : Nat, is = f.drop n) (hn : jaPc is = pc + 3) (h : jkCall Sm c0 M N y (q :: l2) is ls st cs sl = some g')
    (hrun : ∀ z, Sm y = some z → ∀ (an : jaR → Nat) (H : Heap) (locs : List Loc) (lsA : Array Slot) (cells slots : Nat), lsA.size = nL → va_P D jaCl (jkWs dA an cs) H → (z.1 = [] ∨ ∃ c t cq, z.1 = c :: t ∧ cs[q]? = some cq ∧ cq.1 = c.1) → (∀ U : State, U.heap = H → s.WarmedH U.vm → jkPre D dA H.size (jkAc (q :: l2) cs.length an) z.1 U) → cells + (z.2.1.length - z.1.length) ≤ R.cells ∧ slots + z.2.2 ≤ R.slots →
      ∃ a1 : Array Value, va_Run p l e R s m args below meth c H locs cells slots (z.2.1.length - z.1.length) z.2.2 (F0 m pc lsA (.ref (an (200, q, 0)) :: st.map (jaTr an .null))) (st.map (jaTr an .null)) (jkQv D dA (jkAc (q :: l2) cs.length an) H.size z a1) (va_A (jkWs dA (jkAc (q :: l2) cs.length an) z.1) H.size)) :
    (∃ n : Nat, g'.1 = f.drop n) ∧ (jkW p l e R s m args below meth c D dA A nL c0 an0 Qm g' → ∀ (an : jaR → Nat) (H : Heap) (locs : List Loc) (lsA : Array Slot), (∀ r : jaR, (r.1 ≠ 200 ∨ r.2.1 < c0) → an r = an0 r) → jaLh an .null lsA nL ls → va_P D jaCl (jkWs dA an cs) H → va_D A (jkWs dA an cs) → va_S A s.heap H locs →
      W p l e R s m args below meth c H locs (cs.length - c0) sl Qm (F0 m pc lsA (.ref (an (200, q, 0)) :: st.map (jaTr an .null)))) := by
  unfold jkCall at h
  split at h
  · rename_i ci0 ci1 s1 hsm
    obtain ⟨h1, rfl⟩ := jkBt h
    simp only [Bool.and_eq_true] at h1
    obtain ⟨h1, h2, h3, h4, h5, h6, -⟩ := h1
    obtain ⟨k1, k2, k3, k4, k5, k6⟩ := jkOk_e h1
    have h4 : (q :: l2).length ≤ ci1.length := Nat.le_of_ble_eq_true h4
    have hq := jkQs_e h2
    generalize hl : q :: l2 = l9 at *
    have hlen : ci0.length = l9.length := by
      have := congrArg List.length hq
      simp only [List.length_map] at this
      omega
    have hlt : ∀ (i k : Nat), l9[i]? = some k → k < cs.length := by
      intro i k hi
      have h9 := congrArg (fun x : List (Option jkC) => x[i]?) hq
      simp only [List.getElem?_map, hi] at h9
      cases hc : cs[k]? with
      | some c9 => exact (List.getElem?_eq_some_iff.mp hc).1
      | none =>
        have hil : i < ci0.length := by rw [hlen]; exact (List.getElem?_eq_some_iff.mp hi).1
        rw [List.getElem?_eq_getElem hil] at h9
        simp [hc] at h9
    refine ⟨hsuf, fun k an H locs lsA ha hlh hP hD hS => ?_⟩
    try dsimp only at k
    have hs : l9.map (fun i => (jkWs dA an cs)[i]?) = (jkWs dA (jkAc l9 cs.length an) ci0).map some := by
      apply List.ext_getElem?
      intro i
      have h9 := congrArg (fun x : List (Option jkC) => x[i]?) hq
      simp only [List.getElem?_map] at h9
      rw [List.getElem?_map, List.getElem?_map, jkWs_get]
      cases hi : l9[i]? with
      | none =>
        rw [hi] at h9
        cases hci : ci0[i]? with
        | none => rfl
        | some c9 => rw [hci] at h9; cases h9
      | some j =>
        rw [hi] at h9
        cases hci : ci0[i]? with
        | none => rw [hci] at h9; cases h9
        | some c9 =>
          rw [hci] at h9
          have h9 : some (cs[j]?) = some (some (jkRc l9 cs.length c9)) := h9
          show some ((jkWs dA an cs)[j]?) = some (some _)
          rw [jkWs_get, Option.some.inj h9]
          show some (some (an (200, j, 0), jkE dA an (jkRc l9 cs.length c9))) = some (some (jkAc l9 cs.length an (200, i, 0), jkE dA (jkAc l9 cs.length an) c9))
          rw [jkE_rn]
          have : jkAc l9 cs.length an (200, i, 0) = an (200, j, 0) := by
            refine (if_pos rfl).trans ?_
            show an (200, jkRo l9 cs.length i, 0) = _
            unfold jkRo
            rw [hi]
            rfl
          rw [this]
    have hPc : va_P D jaCl (jkWs dA (jkAc l9 cs.length an) ci0) H := by
      intro i q9 hi
      have h9 := congrArg (fun x : List (Option (Nat × va_E)) => x[i]?) hs
      simp only [List.getElem?_map, hi] at h9
      cases hl9 : l9[i]? with
      | none => rw [hl9] at h9; cases h9
      | some j =>
        rw [hl9] at h9
        exact hP j q9 (Option.some.inj h9)
    have hDc := hD.sub l9 h3 hs
    have hF := va_free hD hS hA l9 hs
    have hst : jkOs cs.length st = true := k2
    obtain ⟨a1, hr⟩ := hrun _ hsm an H locs lsA (cs.length - c0) sl hlh.2.1 hP (by
      cases ci0 with
      | nil => exact Or.inl rfl
      | cons c9 t9 =>
        right
        have h9 := hq
        rw [← hl, List.map_cons, List.map_cons, List.map_cons] at h9
        exact ⟨c9, t9, _, rfl, (List.cons.inj h9).1, rfl⟩) (fun U hU hW => ⟨by rw [hU], by rw [hU]; exact hPc, hE.moved hW, hDc.weaken (fun _ _ _ _ => trivial)⟩) ⟨by show cs.length - c0 + (ci1.length - ci0.length) ≤ R.cells; omega, by show sl + s1 ≤ R.slots; omega⟩
    refine va_callv hr hS (fun q9 _ h => hF q9 h) hF (fun an1 t H1 locs1 ht hvm hw hB hz1 hk1 hS1 => ?_)
    obtain ⟨hP1, hD1⟩ := hB
    rw [ht] at hP1
    obtain ⟨hP2, hD2⟩ := jkJoin hP hD k3 hs hlt hlen h4 h5 h6 hk1 hF hw hP1 hD1
    have hsm2 : jkSm cs.length an (jkAj l9 cs.length an an1) := by
      intro r hr9
      exact if_neg (fun z => by have := (hr9 z.1).1; have := z.2; omega)
    have q9 := k (jkAj l9 cs.length an an1) H1 locs1 lsA (fun r hr9 => ?_) (jkLh_c hsm2 k1 hlh) hP2 hD2 hS1
    · rw [hn, jkMap_c hsm2 hst, jkJn_len] at q9
      have e9 : cs.length - c0 + (ci1.length - ci0.length) = cs.length + (ci1.length - l9.length) - c0 := by
        rw [hlen]
        omega
      rw [e9]
      exact q9
    · rw [← ha r hr9]
      refine if_neg ?_
      rintro ⟨z1, z2⟩
      rcases hr9 with hr9 | hr9
      · exact hr9 z1
      · omega
  · cases h
set_option maxHeartbeats 1000000 in
theorem jkS_invokespecial {pc a sl : Nat} {lx : List Nat} {is : List jaI} {ls : List (Option jaV)} {st : List jaV} {cs : List jkC} {g' : jkG} (hx : p.tables.exec = Jvm.exec) (hb : c.code = cc) (hml : c.maxLocals = nL) (hown : s.vm.findClass (jaN "" jaOn own) = some m.cls) (hts : ∀ w ∈ lw_tbl, goodWord w = true → w.before args s = true) (hE : jkEnv D dA s) (hA : ∀ q, s.heap.size ≤ q → A q) (hM : M ≤ R.cells) (hN : N ≤ R.slots) {idx : Nat} (hSm : jkOkS l D dA R Sm) (hR : 1 ≤ R.frames ∧ 20 ≤ R.locals) (hsuf : ∃ n : Nat, is = f.drop n) (hc : jkCk1 own cc nL f ps pc (.invokespecial idx) a lx is = true) (h : jkSt Sm c0 M N f ps ((pc, .invokespecial idx, a, lx) :: is, ls, st, cs, sl) = some g') :
    (∃ n : Nat, g'.1 = f.drop n) ∧ (jkW p l e R s m args below meth c D dA A nL c0 an0 Qm g' → jkW p l e R s m args below meth c D dA A nL c0 an0 Qm ((pc, .invokespecial idx, a, lx) :: is, ls, st, cs, sl)) := by
  have hTB : ∀ w ∈ jaTB, w.before args s = true := fun w hw => hts w (List.mem_filter.mp hw).1 (List.mem_filter.mp hw).2
  simp only [jkCk1, Bool.and_eq_true] at hc
  have hd := jaD_ok hc.1.1
  have hn : jaPc is = pc + 3 := Nat.eq_of_beq_eq_true hc.1.2
  have hc2 := hc.2
  dsimp only [jkSt] at h
  split at h
  · rename_i r st'
    obtain ⟨h4, rfl⟩ := jkBf h
    rw [Bool.or_eq_false_iff] at h4
    have h5 : st'.length ≤ 4 := Nat.le_of_not_lt (fun z => by have := h4.2; rw [show Nat.blt 4 st'.length = true from Nat.ble_eq.mpr z] at this; cases this)
    obtain ⟨w, hw, hw2⟩ := List.any_eq_true.mp hc2
    rw [Bool.and_eq_true] at hw2
    have e1 := Nat.eq_of_beq_eq_true hw2.1
    have e2 := Nat.eq_of_beq_eq_true hw2.2
    have hlk := jaOk_in jkWO_ok w hw
    unfold jkWOw at hlk
    rw [e1, e2] at hlk
    refine ⟨hsuf, fun k an H locs lsA ha hl hP hD hS => ?_⟩
    have q9 := k an H locs lsA ha hl hP hD hS
    dsimp only at q9 ⊢
    rw [List.map_cons, jkTa h4.1]
    rw [hn] at q9
    refine W.objInit hx hb hown (hts _ hlk rfl) (hts _ jkO_i rfl) (hts _ jkO_c rfl) rfl (by rw [hml]; exact hl.2.1) rfl hd hR.1 ?_ q9
    have := jkCats (an := an) h5
    show 2 * 0 + _ + 12 ≤ _
    have := hR.2
    omega
  · rename_i x q st' hne
    obtain ⟨h4, h5⟩ := jkBn h
    have h6 : st'.length ≤ 4 := Nat.le_of_not_lt (fun z => by rw [show Nat.blt 4 st'.length = true from Nat.ble_eq.mpr z] at h4; cases h4)
    refine jkCall_ok hx hb hml hown hts hE hA hM hN hSm hsuf hn h5 (fun z hz an H locs lsA cells slots hls hP hc0 hpre hroom => ?_)
    obtain ⟨s1, s2, s3, s4, -⟩ := hSm a z hz
    obtain ⟨m1, m2, m3, m4, m5⟩ := jkY_mh a s1
    have hlocs : 8 + ((jkY a).2.2.1 + 11) + (jkRm a z).locals ≤ R.locals := by
      show 8 + ((jkY a).2.2.1 + 11) + 64 * jkDp a ≤ R.locals
      omega
    have hi1 := hts _ (jaOk_in jkY_ok1 _ (jkY_mem a s1)) rfl
    have hi0 := hts _ (jaOk_in jkY_ok0 _ (jkY_mem a s1)) rfl
    refine ⟨(Value.ref (an (200, q, 0)) :: []).toArray, ?_⟩
    rcases x with _ | _ | x
    · exact absurd rfl hne
    · have hc2 : (jaHas3 (own, idx, a) jkWM && !(Nat.beq a 11)) = true := hc2
      rw [Bool.and_eq_true] at hc2
      have h11 : a ≠ 11 := jaBne hc2.2
      have cw := cwI (R := R) (s := s) (args := args) (own := jaN "" jaOn own) (index := idx) (rm := jkRm a z) (maxL := (jkY a).2.2.1) 0 hTB (jkWds_good s1) rfl rfl rfl hi1 (hts _ (jaOk_in jkWM_ok _ (jaHas3_in hc2.1)) rfl) hi0 (m5 h11) ⟨m1, m2, m3⟩ ⟨s3, hlocs⟩
      exact va_runI (As := []) (rest := st'.map (jaTr an .null)) ⟨hx, hb, hml, hown, hTB⟩ (s2 (jkAc [q] cs.length an) H.size) cw ⟨jkPre_blind, fun U hU hW => ⟨rfl, hpre U hU hW⟩⟩ rfl rfl hls rfl (by show 2 * 0 + _ ≤ 8; have := jkCats (an := an) h6; omega) hd hroom
    · have hc2 : (jaHas3 (own, idx, a) jkWK && !(Nat.beq a 11)) = true := hc2
      rw [Bool.and_eq_true] at hc2
      have h11 : a ≠ 11 := jaBne hc2.2
      have cw := va_cnB (R := R) (s := s) (args := args) (own := jaN "" jaOn own) (host := "AgreedInput") (index := idx) (rm := jkRm a z) (maxL := (jkY a).2.2.1) 0 hTB (jkWds_good s1) rfl rfl rfl (hE.2.1 _ (jaHas3_in hc2.1)) hi1 ⟨m1, m2, m3⟩ ⟨s3, hlocs⟩
      exact va_runIN (As := []) (rest := st'.map (jaTr an .null)) ⟨hx, hb, hml, hown, hTB⟩ (s2 (jkAc [q] cs.length an) H.size) ⟨cw, m5 h11, hi0⟩ ⟨jkPre_blind, fun U hU hW => ⟨rfl, hpre U hU hW⟩⟩ rfl rfl hls rfl (by show 2 * 0 + _ ≤ 8; have := jkCats (an := an) h6; omega) hd hroom
  · cases h
set_option maxHeartbeats 1000000 in
theorem jkS_invokevirtual {pc a sl : Nat} {lx : List Nat} {is : List jaI} {ls : List (Option jaV)} {st : List jaV} {cs : List jkC} {g' : jkG} (hx : p.tables.exec = Jvm.exec) (hb : c.code = cc) (hml : c.maxLocals = nL) (hown : s.vm.findClass (jaN "" jaOn own) = some m.cls) (hts : ∀ w ∈ lw_tbl, goodWord w = true → w.before args s = true) (hE : jkEnv D dA s) (hA : ∀ q, s.heap.size ≤ q → A q) (hM : M ≤ R.cells) (hN : N ≤ R.slots) {idx : Nat} (hSm : jkOkS l D dA R Sm) (hsuf : ∃ n : Nat, is = f.drop n) (hc : jkCk1 own cc nL f ps pc (.invokevirtual idx) a lx is = true) (h : jkSt Sm c0 M N f ps ((pc, .invokevirtual idx, a, lx) :: is, ls, st, cs, sl) = some g') :
    (∃ n : Nat, g'.1 = f.drop n) ∧ (jkW p l e R s m args below meth c D dA A nL c0 an0 Qm g' → jkW p l e R s m args below meth c D dA A nL c0 an0 Qm ((pc, .invokevirtual idx, a, lx) :: is, ls, st, cs, sl)) := by
  have hTB : ∀ w ∈ jaTB, w.before args s = true := fun w hw => hts w (List.mem_filter.mp hw).1 (List.mem_filter.mp hw).2
  simp only [jkCk1, Bool.and_eq_true] at hc
  have hd := jaD_ok hc.1.1
  have hn : jaPc is = pc + 3 := Nat.eq_of_beq_eq_true hc.1.2
  have hlk := jaOk_in jkWM_ok _ (jaHas3_in hc.2.1)
  have h11 : a = 11 := Nat.eq_of_beq_eq_true hc.2.2
  subst h11
  dsimp only [jkSt] at h
  split at h
  · rename_i x hh q st'
    obtain ⟨h4, h5⟩ := jkBn h
    have h6 : st'.length ≤ 4 := Nat.le_of_not_lt (fun z => by rw [show Nat.blt 4 st'.length = true from Nat.ble_eq.mpr z] at h4; cases h4)
    refine jkCall_ok hx hb hml hown hts hE hA hM hN hSm hsuf hn h5 (fun z hz an H locs lsA cells slots hls hP hc0 hpre hroom => ?_)
    obtain ⟨s1, s2, s3, s4, s5⟩ := hSm 11 z hz
    obtain ⟨m1, m2, m3, m4, -⟩ := jkY_mh 11 s1
    have hlocs : 8 + ((jkY 11).2.2.1 + 11) + (jkRm 11 z).locals ≤ R.locals := by
      show 8 + ((jkY 11).2.2.1 + 11) + 64 * jkDp 11 ≤ R.locals
      omega
    have hmem : jaY jy_M_clears ∈ jaYt := jaY_mem (by decide)
    have hi1 : Jvm.Cond.initialized (jkY 11).1.cls ∈ lw_tbl := jaOk_in jkY_ok1 _ (jkY_mem 11 s1)
    have hi0 : Jvm.Cond.instanceMethod (jkY 11).1 ∈ lw_tbl := jaOk_in jkY_ok0 _ (jkY_mem 11 s1)
    have hse : Jvm.Cond.selects (jkY 11).1.cls (jkY 11).1 (jkY 11).1 ∈ lw_tbl := jaY_ok1 _ hmem
    have hT : GoodIn jaTB (wsV (jaN "" jaOn own) idx (jkY 11).1.cls (jkY 11).1 (jkWds 11)) := by
      intro w hw
      rcases List.mem_append.mp hw with hw | hw
      · simp only [List.mem_cons, List.not_mem_nil, or_false] at hw
        rcases hw with rfl | rfl | rfl | rfl
        · exact ⟨jaTB_in hlk rfl, good_of_word rfl⟩
        · exact ⟨jaTB_in hi0 rfl, good_of_word rfl⟩
        · exact ⟨jaTB_in hse rfl, good_of_word rfl⟩
        · exact ⟨jaTB_in hi1 rfl, good_of_word rfl⟩
      · exact jkWds_good s1 w hw
    have cw := cwV (R := R) (s := s) (args := args) (own := jaN "" jaOn own) (index := idx) (rm := jkRm 11 z) (maxL := (jkY 11).2.2.1) 0 hTB hT rfl rfl rfl ⟨rfl, m1, m2, m3⟩ ⟨s3, hlocs⟩
    obtain ⟨n9, fs9, t9, hz1⟩ := s5 rfl
    obtain ⟨cq, hcq, hcq1⟩ : ∃ cq, cs[q]? = some cq ∧ cq.1 = 11 := by
      rcases hc0 with hc0 | ⟨c9, t8, cq, g1, g2, g3⟩
      · rw [hz1] at hc0
        cases hc0
      · rw [hz1] at g1
        cases g1
        exact ⟨cq, g2, g3⟩
    have hrecv := va_recv hE.1 hP (ci := 11) (q0 := q) (a := an (200, q, 0)) (fs := cq.2.2.map fun q => jaTr an .null q.2) (jkCl_get 11 (by decide)) (by
      rw [jkWs_get, hcq]
      show some (_, _) = some (_, _)
      obtain ⟨k9, z9, o9⟩ := cq
      have hk9 : k9 = 11 := hcq1
      subst hk9
      rw [jkE_o (by decide)])
    refine ⟨_, va_runV (As := []) (rest := st'.map (jaTr an .null)) ⟨hx, hb, hml, hown, hTB⟩ (s2 (jkAc [q, hh] cs.length an) H.size) cw ⟨jkPre_blind, hrecv, fun U hU hW => ⟨rfl, hpre U hU hW⟩⟩ rfl rfl hls rfl (by show 2 * 0 + _ ≤ 8; have := jkCats (an := an) h6; omega) hd hroom⟩
  · cases h
end
