section
theorem jeSt {l : Launch} (h : l.flags = flags0) : l.stackTraces = false := by
  unfold Launch.stackTraces
  rw [h]
  decide
set_option maxHeartbeats 4000000 in
set_option maxRecDepth 20000 in
theorem je_start {p : Program} {e : Env} {s : State} {m : MethodId} {below : List Frame} {meth : Method} {c : Code} (l : Launch) (hflags : l.flags = flags0) {b L : Nat} {xs : Nat → Int32} (hL : L ≤ 3072) (C0 : lw_At p s m meth c b L xs) : W p l e room_1 s m #[Value.ref b] below meth c s.heap [] 0 0 (lw_Z below #[Value.ref b] s) (entryFrame m ([Value.ref b] : List Value).toArray 7) := by
  obtain ⟨hx, hb, hr, hml, hown, hts, hX, hbl, hlk, hg⟩ := C0
  have hst := jeSt hflags
  have hown : s.vm.findClass "AgreedInputLaw" = some m.cls := hown
  obtain ⟨D, dA, sv, adK, adV, hs, hkE, hxE, hE⟩ := je_env hts hg
  obtain ⟨an0, h96, h100, h102, h101, h103⟩ : ∃ an0 : jaR → Nat, an0 (96, 21, 0) = b ∧ an0 (100, 23, 0) = adK 0 ∧ an0 (102, 24, 0) = adK 1 ∧ an0 (101, 23, 0) = adV 0 ∧ an0 (103, 24, 0) = adV 1 :=
    ⟨fun r => if r.1 = 96 then b else if r.1 = 100 then adK 0 else if r.1 = 102 then adK 1 else if r.1 = 101 then adV 0 else adV 1, rfl, rfl, rfl, rfl, rfl⟩
  rw [lg_entry_eq]
  have hl1 := lv_entry [Value.ref b] (n := 7) (by show (1 : Nat) ≤ 7; decide)
  generalize (lg_sl [Value.ref b] ++ List.replicate (7 - (lg_sl [Value.ref b]).length) Slot.unset).toArray = ls at hl1 ⊢
  have hlh : jaLh an0 .null ls 7 [some jcS, none, none, none, none, none, none] := by
    refine ⟨rfl, hl1.1, hl1.2.1, fun i v hi => ?_⟩
    match i, hi with
    | 0, hi =>
      cases hi
      have q := hl1.2.2 (0, .ref b) List.mem_cons_self
      rw [jaTr_ref (by decide), h96]
      exact q
    | 1, hi => cases hi
    | 2, hi => cases hi
    | 3, hi => cases hi
    | 4, hi => cases hi
    | 5, hi => cases hi
    | 6, hi => cases hi
    | i + 7, hi => cases hi
  obtain ⟨n, hn⟩ := jktL
  have key := jkNn_ok (p := p) (l := l) (e := e) (R := room_1) (s := s) (m := m) (args := #[Value.ref b]) (below := below) (meth := meth) (c := c) (D := D) (dA := dA) (A := jlA s) (cc := code) (nL := 7) (own := 12) (f := jkf_L) (ps := []) (Sm := jkS13) (c0 := 0) (M := 585) (N := 53119) (an0 := an0) (Qm := lw_Z below #[Value.ref b] s)
    hx hb hml hown (fun w hw _ => hts w hw) hkE (fun _ h => h) (by show (585 : Nat) ≤ 601024; decide) (by show (53119 : Nat) ≤ 7293034; decide) (jkS13_ok (by show (5 : Nat) ≤ 2048; decide) (by show 64 * 5 ≤ 84000; decide)) ⟨by show (1 : Nat) ≤ 2048; decide, by show (20 : Nat) ≤ 84000; decide⟩ jkkL (Or.inr jeNp) n _ _ ⟨0, rfl⟩ hn ?_
  · have q := key an0 s.heap [] ls (fun _ _ => rfl) hlh (fun k q h => by cases h) ⟨fun i j p q h => (by cases h), fun k q h => (by cases h)⟩ va_S.rf
    rw [jePc.1] at q
    exact q
  · intro an' H locs lsA han hlh' hP hD hS
    rw [jePc.2.1, jePc.2.2.2]
    obtain ⟨an, hin, hout⟩ : ∃ an : jaR → Nat, (∀ r, r ∈ jaRefs → an r = an' (200, jkId r, 0)) ∧ ∀ r, r ∉ jaRefs → an r = an0 r := ⟨fun r => if r ∈ jaRefs then an' (200, jkId r, 0) else an0 r, fun r hr => if_pos hr, fun r hr => if_neg hr⟩
    obtain ⟨i1, i2, i3, o1, o2, o3, o4, o5, i4⟩ := jeIn
    have hE := hE an ((hout _ o2).trans h100) ((hout _ o4).trans h102) ((hout _ o3).trans h101) ((hout _ o5).trans h103)
    have hHp : jaHp D dA an (jlA s) (jk0 (jeS21 xs)) H := jkHp hin hP hD
    have hA0 : ∀ q, jaA0 an q → s.heap.size ≤ q := by
      rintro q ⟨r, hr, rfl⟩
      obtain ⟨q0, -, hq⟩ := jaWs_get (dA := dA) (an := an) (σ := jk0 (jeS21 xs)) hr
      exact hHp.2.2 q0 _ hq
    have e96 : an (96, 21, 0) = b := (hout _ o1).trans h96
    have hX' : va_X (an (96, 21, 0)) L (fun j => (jeS21 xs).1 96 0 j) s s.heap := by
      rw [e96]
      exact hX
    have hc : ∀ j, j ≤ 600 → jlC L (jeS21 xs) (jlP p l e s m below meth c b D dA an sv (jeS21 xs) j) := fun j hj => jl_closed hx hb hr hml hown hts hlk hE hs hX' (by rw [e96]; exact hbl) hA0 hj
    have hV : jlW2 600 (fun j => jlP p l e s m below meth c b D dA an sv (jeS21 xs) j) (fun τ x1 x2 => jgVal ((τ 20).1 72 0) x1 x2) 247 := fun j hj i o5 o6 x1 x2 τ hI hq =>
      jl_wrap (as := [jcA, .inl x1, .inl x2, jcO]) hx hb hml hown hts hE hs hxE hA0 (jw_L_value hst hs hI) jeW_value ⟨by decide, by decide, jeY_value⟩ (by decide) jeD_value (by rw [jeP_value.1, jeP_value.2]) hj hq
    have hK : jlW2 600 (fun j => jlP p l e s m below meth c b D dA an sv (jeS21 xs) j) (fun τ x1 x2 => jgKey ((τ 20).1 72 0) x1 x2) 295 := fun j hj i o5 o6 x1 x2 τ hI hq =>
      jl_wrap (as := [jcA, .inl x1, .inl x2, jcO]) hx hb hml hown hts hE hs hxE hA0 (jw_L_key hst hs hI) jeW_key ⟨by decide, by decide, jeY_key⟩ (by decide) jeD_key (by rw [jeP_key.1, jeP_key.2]) hj hq
    have hSr : jlW1 600 (fun j => jlP p l e s m below meth c b D dA an sv (jeS21 xs) j) (fun τ x1 => jgSer ((τ 20).1 72 0) ((τ 20).1 75 0) ((τ 20).1 76 0) x1) 572 := fun j hj i o5 o6 x1 τ hI hq =>
      jl_wrap (as := [jcA, .inl x1, jcO]) hx hb hml hown hts hE hs hxE hA0 (jw_L_serial hst hs hI) jeW_serial ⟨by decide, by decide, jeY_serial⟩ (by decide) jeD_serial (by rw [jeP_serial.1, jeP_serial.2]) hj hq
    have hLoop := jl_loop (L := L) (J := 600) (S := jeS21 xs) (by omega) hc hV hK hSr 512 0 0 none none (jk0 (jeS21 xs)) (by omega) (by omega) (by omega) jI_start
    have hvl : jaVl (jlL (nI 0) none none) := by
      intro i v hi
      match i, hi with
      | 0, hi => cases hi; exact Or.inr i4
      | 1, hi => cases hi; exact Or.inl i1
      | 2, hi => cases hi; exact Or.inl i2
      | 3, hi => cases hi; exact Or.inl i3
      | 4, hi => cases hi; trivial
      | 5, hi => cases hi
      | 6, hi => cases hi
      | i + 7, hi => cases hi
    have hlhA : jaLh an sv lsA 7 (jlL (nI 0) none none) := by
      have hg2 : ∀ (r : jaR) (i : Nat), r ∈ jaRefs → lsA[i]? = some (.val (jaTr an' .null (jkAd (jkId r)))) → r.1 ≠ 104 → lsA[i]? = some (.val (jaTr an sv (.inr (.inr r)))) := by
        intro r i hr h h104
        rw [h]
        rw [jaTr_ref h104, hin r hr]
        rfl
      refine ⟨rfl, hlh'.2.1, hlh'.2.2.1, fun i v hi => ?_⟩
      match i, hi with
      | 0, hi =>
        cases hi
        have q := hlh'.2.2.2 0 _ rfl
        rw [jaTr_ref (by decide), han _ (Or.inl (by decide)), h96] at q
        rw [jaTr_ref (by decide), e96]
        exact q
      | 1, hi =>
        cases hi
        refine hg2 _ _ i1 ?_ (by decide)
        rw [jeId.1]
        exact hlh'.2.2.2 1 _ rfl
      | 2, hi =>
        cases hi
        refine hg2 _ _ i2 ?_ (by decide)
        rw [jeId.2.1]
        exact hlh'.2.2.2 2 _ rfl
      | 3, hi =>
        cases hi
        refine hg2 _ _ i3 ?_ (by decide)
        rw [jeId.2.2]
        exact hlh'.2.2.2 3 _ rfl
      | 4, hi => cases hi; exact hlh'.2.2.2 4 _ rfl
      | 5, hi => cases hi
      | 6, hi => cases hi
      | i + 7, hi => cases hi
    have q := hLoop ⟨14, rfl⟩ hvl trivial (if_pos rfl) H locs lsA hlhA hHp hS
    rw [jePc.2.2.1] at q
    exact q
end
