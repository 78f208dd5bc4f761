section
/-! runs in pieces -/
def jkNn (Sm : Nat → Option jkZ) (c0 M N : Nat) (f : List jaI) (ps : List Nat) : Nat → jkG → Option jkG
  | 0, g => some g
  | n + 1, g => match jkSt Sm c0 M N f ps g with
    | some g' => jkNn Sm c0 M N f ps n g'
    | none => none
def jkLe : List (Option jaV) → List (Option jaV) → Bool
  | [], [] => true
  | some v :: l, some w :: l' => jkVb v w && jkLe l l'
  | none :: l, none :: l' => jkLe l l'
  | _, _ => false
def jkSb : List jaV → List jaV → Bool
  | [], [] => true
  | v :: l, w :: l' => jkVb v w && jkSb l l'
  | _, _ => false
def jkCe : List jkC → List jkC → Bool
  | [], [] => true
  | v :: l, w :: l' => jkEb v w && jkCe l l'
  | _, _ => false
theorem jkLe_e : ∀ {l l' : List (Option jaV)}, jkLe l l' = true → l = l'
  | [], [], _ => rfl
  | some v :: l, some w :: l', h => by
    simp only [jkLe, Bool.and_eq_true] at h
    rw [jkVb_e h.1, jkLe_e h.2]
  | none :: l, none :: l', h => by
    simp only [jkLe] at h
    rw [jkLe_e h]
  | [], some _ :: _, h => by cases h
  | [], none :: _, h => by cases h
  | some _ :: _, [], h => by cases h
  | none :: _, [], h => by cases h
  | some _ :: _, none :: _, h => by cases h
  | none :: _, some _ :: _, h => by cases h
theorem jkSb_e : ∀ {l l' : List jaV}, jkSb l l' = true → l = l'
  | [], [], _ => rfl
  | v :: l, w :: l', h => by
    simp only [jkSb, Bool.and_eq_true] at h
    rw [jkVb_e h.1, jkSb_e h.2]
  | [], _ :: _, h => by cases h
  | _ :: _, [], h => by cases h
theorem jkCe_e : ∀ {l l' : List jkC}, jkCe l l' = true → l = l'
  | [], [], _ => rfl
  | v :: l, w :: l', h => by
    simp only [jkCe, Bool.and_eq_true] at h
    rw [jkEb_e h.1, jkCe_e h.2]
  | [], _ :: _, h => by cases h
  | _ :: _, [], h => by cases h
/-- it came to the code's place k with this -/
def jkEq (f : List jaI) (k : Nat) (ls : List (Option jaV)) (st : List jaV) (cs : List jkC) (sl : Nat) (g : Option jkG) : Bool := match g with
  | some g => Nat.beq g.1.length (f.length - k) && (jkLe g.2.1 ls && (jkSb g.2.2.1 st && (jkCe g.2.2.2.1 cs && Nat.beq g.2.2.2.2 sl)))
  | none => false
theorem jkDrop_e {f : List jaI} {n k : Nat} (h : (f.drop n).length = f.length - k) : f.drop n = f.drop k := by
  rw [List.length_drop] at h
  by_cases h1 : n < f.length
  · rw [show n = k by omega]
  · rw [List.drop_eq_nil_of_le (by omega), List.drop_eq_nil_of_le (by omega)]
theorem jkEq_e {f : List jaI} {k : Nat} {ls : List (Option jaV)} {st : List jaV} {cs : List jkC} {sl : Nat} {g : Option jkG} (h : jkEq f k ls st cs sl g = true) (hs : ∀ g', g = some g' → ∃ n : Nat, g'.1 = f.drop n) : g = some (f.drop k, ls, st, cs, sl) := by
  cases g with
  | none => cases h
  | some g =>
    obtain ⟨is, ls', st', cs', sl'⟩ := g
    simp only [jkEq, Bool.and_eq_true] at h
    obtain ⟨h1, h2, h3, h4, h5⟩ := h
    obtain ⟨n, hn⟩ := hs _ rfl
    have hn : is = f.drop n := hn
    have h1 := Nat.eq_of_beq_eq_true h1
    rw [hn] at h1
    rw [hn, jkDrop_e h1, jkLe_e h2, jkSb_e h3, jkCe_e h4, Nat.eq_of_beq_eq_true h5]
theorem jkSt_icmp {Sm : Nat → Option jkZ} {c0 M N : Nat} {f : List jaI} {ps : List Nat} {pc a sl : Nat} {lx : List Nat} {is : List jaI} {ls : List (Option jaV)} {st : List jaV} {cs : List jkC} {g' : jkG} {cd : ClassFile.Cond} {off : Int} (h : jkSt Sm c0 M N f ps ((pc, .if_icmp cd off, a, lx) :: is, ls, st, cs, sl) = some g') : g'.1 = jaAt f ps a ∨ g'.1 = is := by
  cases cd <;> dsimp only [jkSt] at h
  all_goals try (exact absurd h (by intro h; cases h))
  split at h
  · rename_i y x st'
    split at h
    · rename_i z
      cases h
      exact Or.inl rfl
    · rename_i z
      cases h
      exact Or.inr rfl
  · cases h
/-- the place stays one of the code's -/
theorem jkSt_d {Sm : Nat → Option jkZ} {c0 M N : Nat} {f : List jaI} {ps : List Nat} {g g' : jkG} (hs : ∃ n : Nat, g.1 = f.drop n) (h : jkSt Sm c0 M N f ps g = some g') : ∃ n : Nat, g'.1 = f.drop n := by
  obtain ⟨is, ls, st, cs, sl⟩ := g
  obtain ⟨n0, hn0⟩ := hs
  have hn0 : is = f.drop n0 := hn0
  cases is with
  | nil => cases h
  | cons q is =>
  obtain ⟨pc, i, a, lx⟩ := q
  have hs : ∃ n : Nat, is = f.drop n := ⟨n0 + 1, by rw [← List.drop_drop, ← hn0]; rfl⟩
  have hj : ∀ a, ∃ n : Nat, jaAt f ps a = f.drop n := fun a => ⟨_, rfl⟩
  have hcall : ∀ {y l st' g'}, jkCall Sm c0 M N y l is ls st' cs sl = some g' → ∃ n : Nat, g'.1 = f.drop n := by
    intro y l st' g' h
    unfold jkCall at h
    split at h
    · obtain ⟨-, rfl⟩ := jkBt h
      exact hs
    · cases h
  cases i
  case if_icmp cd off =>
    rcases jkSt_icmp h with e | e
    · exact ⟨_, e⟩
    · rw [e]
      exact hs
  all_goals try dsimp only [jkSt] at h
  all_goals repeat' first | (cases h; done) | (cases h; exact hs) | (cases h; exact hj _) | (obtain ⟨-, rfl⟩ := jkBt h; exact hs) | (obtain ⟨-, rfl⟩ := jkBf h; exact hs) | exact hcall (jkBn h).2 | split at h
theorem jkNn_d {Sm : Nat → Option jkZ} {c0 M N : Nat} {f : List jaI} {ps : List Nat} : ∀ (n : Nat) (g g' : jkG), (∃ n : Nat, g.1 = f.drop n) → jkNn Sm c0 M N f ps n g = some g' → ∃ n : Nat, g'.1 = f.drop n
  | 0, _, _, hs, h => by cases h; exact hs
  | n + 1, g, g', hs, h => by
    rw [jkNn] at h
    cases hg : jkSt Sm c0 M N f ps g with
    | none => rw [hg] at h; cases h
    | some g1 => rw [hg] at h; exact jkNn_d n g1 g' (jkSt_d hs hg) h
def jkTo (Sm : Nat → Option jkZ) (c0 M N : Nat) (f : List jaI) (ps : List Nat) (g g' : jkG) : Prop := ∃ n, jkNn Sm c0 M N f ps n g = some g'
theorem jkNn_add {Sm : Nat → Option jkZ} {c0 M N : Nat} {f : List jaI} {ps : List Nat} : ∀ (n m : Nat) (g g1 : jkG), jkNn Sm c0 M N f ps n g = some g1 → jkNn Sm c0 M N f ps (n + m) g = jkNn Sm c0 M N f ps m g1
  | 0, m, g, g1, h => by cases h; rw [Nat.zero_add]
  | n + 1, m, g, g1, h => by
    rw [Nat.succ_add, jkNn]
    rw [jkNn] at h
    cases hg : jkSt Sm c0 M N f ps g with
    | none => rw [hg] at h; cases h
    | some g2 => rw [hg] at h; exact jkNn_add n m g2 g1 h
theorem jkTo.trans {Sm : Nat → Option jkZ} {c0 M N : Nat} {f : List jaI} {ps : List Nat} {g g1 g2 : jkG} (h : jkTo Sm c0 M N f ps g g1) (h' : jkTo Sm c0 M N f ps g1 g2) : jkTo Sm c0 M N f ps g g2 := by
  obtain ⟨n, h⟩ := h
  obtain ⟨m, h'⟩ := h'
  exact ⟨n + m, (jkNn_add n m g g1 h).trans h'⟩
theorem jkTo_of {Sm : Nat → Option jkZ} {c0 M N : Nat} {f : List jaI} {ps : List Nat} {n j k : Nat} {ls ls' : List (Option jaV)} {st st' : List jaV} {cs cs' : List jkC} {sl sl' : Nat} (h : jkEq f k ls' st' cs' sl' (jkNn Sm c0 M N f ps n (f.drop j, ls, st, cs, sl)) = true) : jkTo Sm c0 M N f ps (f.drop j, ls, st, cs, sl) (f.drop k, ls', st', cs', sl') :=
  ⟨n, jkEq_e h (fun g' hg => jkNn_d n _ g' ⟨j, rfl⟩ hg)⟩
end
section
variable {p : Program} {l : Launch} {e : Env} {R : Room} {s : State} {m : MethodId} {args : Array Value} {below : List Frame} {meth : Method} {c : Code} {D : va_G} {dA : Nat → ClassId} {A : Nat → Prop} {cc : ByteArray} {nL own : Nat} {f : List jaI} {ps : List Nat} {Sm : Nat → Option jkZ} {c0 M N : Nat} {an0 : jaR → Nat} {Qm : State → Prop}
theorem jkNn_ok (hx : p.tables.exec = Jvm.exec) (hb : c.code = cc) (hml : c.maxLocals = nL) (hown : s.vm.findClass (jaN "" jaOn own) = some m.cls) (hts : ∀ w ∈ lw_tbl, goodWord w = true → w.before args s = true) (hE : jkEnv D dA s) (hA : ∀ q, s.heap.size ≤ q → A q) (hM : M ≤ R.cells) (hN : N ≤ R.slots) (hSm : jkOkS l D dA R Sm) (hR : 1 ≤ R.frames ∧ 20 ≤ R.locals) (hck : jkCk own cc nL f ps f = true) (hin : meth.name = "<init>" ∨ jkNp f = true) : ∀ (n : Nat) (g g' : jkG), (∃ n : Nat, g.1 = f.drop n) → jkNn Sm c0 M N f ps n g = some g' →
    jkW p l e R s m args below meth c D dA A nL c0 an0 Qm g' → jkW p l e R s m args below meth c D dA A nL c0 an0 Qm g
  | 0, _, _, _, h => by cases h; exact id
  | n + 1, g, g', hs, h => by
    rw [jkNn] at h
    cases hg : jkSt Sm c0 M N f ps g with
    | none => rw [hg] at h; cases h
    | some g1 =>
      rw [hg] at h
      obtain ⟨h1, h2⟩ := jkSt_ok hx hb hml hown hts hE hA hM hN hSm hR hck hin hs hg
      exact fun k => h2 (jkNn_ok hx hb hml hown hts hE hA hM hN hSm hR hck hin n g1 g' h1 h k)
end
section
theorem jkMet_of2 {l : Launch} {D : va_G} {dA : Nat → ClassId} {y M N kk : Nat} {ls9 : List (Option jaV)} {c1 : List jkC} {i0 : List jkC} {Sm : Nat → Option jkZ} {f : List jaI} {ps : List Nat} (hy : y < 13) (hck : jkCk (jkY y).2.2.2 (jkY y).2.1 (jkY y).2.2.1 f ps f = true) (hpc : jaPc f = 0) (hnp : y ≠ 11 ∨ jkNp f = true) (hdp : 2 ≤ jkDp y)
    (hto : jkTo Sm i0.length M N f ps (f, jaArg [jkAd 0] ++ jaPad ((jkY y).2.2.1 - 1), [], i0, 0) (f.drop kk, ls9, [], c1, N)) (hc1 : c1.length = i0.length + M) (hSm : ∀ R : Room, jkDp y ≤ R.frames → 64 * jkDp y ≤ R.locals → jkOkS l D dA R Sm) (hst : jaD (jkY y).2.1 (jaPc (f.drop kk)) .return_ 1 = true) : jkMet l D dA y (i0, c1, N) := by
  obtain ⟨n9, hg⟩ := hto
  obtain ⟨g, hgg, g1, g2, g3⟩ : ∃ g : jkG, g = (f.drop kk, ls9, [], c1, N) ∧ g.2.2.1 = [] ∧ g.2.2.2.1.length = i0.length + M ∧ g.2.2.2.2 = N := ⟨_, rfl, rfl, hc1, rfl⟩
  have hz : (i0, c1, N) = ((i0, g.2.2.2.1, g.2.2.2.2) : jkZ) := by rw [hgg]
  have hst : jaD (jkY y).2.1 (jaPc g.1) .return_ 1 = true := by rw [hgg]; exact hst
  rw [← hgg] at hg
  rw [hz]
  intro an sz
  show Met l (jkY y).1 (jkWds y) (jkRm y (i0, g.2.2.2.1, g.2.2.2.2)) (va_Pc [.ref (an (200, 0, 0))] (jkPre D dA sz an i0)) (jkQv D dA an sz (i0, g.2.2.2.1, g.2.2.2.2)) (g.2.2.2.1.length - i0.length) g.2.2.2.2 (va_A (jkWs dA an i0) sz)
  refine jaOfW (cc := (jkY y).2.1) (maxL := (jkY y).2.2.1) (ret := none) (jkPln y hy) rfl ?_
  intro p e s m args below meth c s₁ B hml hv
  obtain ⟨rfl, rfl, hP, hE, hD0⟩ := hv
  have hx := B.exec
  have hb := B.bytes
  have hr := B.returns
  have hts0 := atoms_spec (ws := jkWds y) B.pre
  have hts : ∀ w ∈ lw_tbl, goodWord w = true → w.before (([.ref (an (200, 0, 0))] : List Value)).toArray s = true := fun w hw hg => hts0 w (List.mem_cons_of_mem _ (jaTB_in hw hg))
  have hown : s.vm.findClass (jaN "" jaOn (jkY y).2.2.2) = some m.cls := by
    rw [(jkRet y hy).1]
    exact findClass_of_methodNamed B.named
  have hlocks := B.notSynchronized
  have hnm : y ≠ 11 → meth.name = "<init>" := fun h => ((name_of_methodNamed B.named B.method).1).trans ((jkY_mh y hy).2.2.2.2 h)
  have hlA : (lg_sl ([.ref (an (200, 0, 0))] : List Value)).length ≤ (jkY y).2.2.1 := (jkRet y hy).2
  have hl1 := lv_entry ([.ref (an (200, 0, 0))] : List Value) (n := (jkY y).2.2.1) hlA
  rw [lg_entry_eq]
  generalize (lg_sl ([.ref (an (200, 0, 0))] : List Value) ++ List.replicate ((jkY y).2.2.1 - (lg_sl ([.ref (an (200, 0, 0))] : List Value)).length) Slot.unset).toArray = ls at hl1 ⊢
  have hlh : jaLh an .null ls (jkY y).2.2.1 (jaArg [jkAd 0] ++ jaPad ((jkY y).2.2.1 - 1)) := by
    refine ⟨?_, hl1.1, hl1.2.1, fun i v hi => ?_⟩
    · rw [List.length_append, jaPad_len]
      show 1 + _ = _
      have := (jkRet y hy).2
      omega
    · by_cases hi2 : i < (jaArg [jkAd 0]).length
      · rw [List.getElem?_append_left hi2] at hi
        have q := jaArg_at (an := an) (sv := .null) (Or.inl rfl) [jkAd 0] 0 i v hi
        rw [Nat.zero_add] at q
        exact hl1.2.2 _ q
      · rw [List.getElem?_append_right (by omega)] at hi
        exact absurd hi (jaPad_at _ _ _)
  have hA : ∀ q, s.heap.size ≤ q → va_A (jkWs dA an i0) s.heap.size q := fun q h => Or.inr h
  have hSm' := hSm (headSpec (jkWds y) (jkRm y (i0, g.2.2.2.1, g.2.2.2.2))).room (Nat.le_refl _) (Nat.le_refl _)
  have K2 := (jkNn_ok (p := p) (l := l) (e := e) (R := (headSpec (jkWds y) (jkRm y (i0, g.2.2.2.1, g.2.2.2.2))).room) (s := s) (m := m) (args := (([.ref (an (200, 0, 0))] : List Value)).toArray) (below := below) (meth := meth) (c := c) (D := D) (dA := dA) (A := va_A (jkWs dA an i0) s.heap.size) (M := M) (N := N) (an0 := an)
    (Qm := MQ below (jkQv D dA an s.heap.size (i0, g.2.2.2.1, g.2.2.2.2)) (([.ref (an (200, 0, 0))] : List Value)).toArray s (g.2.2.2.1.length - i0.length) g.2.2.2.2 (va_A (jkWs dA an i0) s.heap.size))
    hx hb hml hown hts hE hA (by show M ≤ g.2.2.2.1.length - i0.length; omega) (by show N ≤ g.2.2.2.2; omega) hSm' ⟨by show 1 ≤ jkDp y; omega, by show 20 ≤ 64 * jkDp y; omega⟩ hck (hnp.imp hnm id) n9 (f, jaArg [jkAd 0] ++ jaPad ((jkY y).2.2.1 - 1), [], i0, 0) g ⟨0, rfl⟩ hg)
  have q9 := K2 (fun an1 H locs lsA ha hlh hP hD hS => ?_) an s.heap [] ls (fun _ _ => rfl) hlh hP hD0.self va_S.rf
  · have q9 : W p l e (headSpec (jkWds y) (jkRm y (i0, g.2.2.2.1, g.2.2.2.2))).room s m (([.ref (an (200, 0, 0))] : List Value)).toArray below meth c s.heap [] (i0.length - i0.length) 0 (MQ below (jkQv D dA an s.heap.size (i0, g.2.2.2.1, g.2.2.2.2)) (([.ref (an (200, 0, 0))] : List Value)).toArray s (g.2.2.2.1.length - i0.length) g.2.2.2.2 (va_A (jkWs dA an i0) s.heap.size)) (F0 m (jaPc f) ls []) := q9
    rw [Nat.sub_self, hpc] at q9
    exact q9
  · rw [g1]
    exact W.vret hx hb hr (fun t ht hW => ⟨⟨an1, rfl, ha, by rw [ht]; exact hP, hD⟩, hS.F ht⟩) hS.2.2 (jaD_ok hst)
end
