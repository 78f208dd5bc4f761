/-! the pure machine tells what the machine does -/
theorem jaB2_elim {f : Int32 → Int32 → Int32} {K : List jaV → Prop} {st : List jaV} (h : jaB2 f K st) : ∃ x y st', st = .inl y :: .inl x :: st' ∧ K (.inl (f x y) :: st') := by
  unfold jaB2 at h
  split at h
  · exact ⟨_, _, _, rfl, h⟩
  · exact h.elim
theorem jaB1_elim {f : Int32 → Int32} {K : List jaV → Prop} {st : List jaV} (h : jaB1 f K st) : ∃ x st', st = .inl x :: st' ∧ K (.inl (f x) :: st') := by
  unfold jaB1 at h
  split at h
  · exact ⟨_, _, rfl, h⟩
  · exact h.elim
theorem jaL2_elim {f : Int64 → Int64 → Int64} {K : List jaV → Prop} {st : List jaV} (h : jaL2 f K st) : ∃ x y st', st = .inr (.inl y) :: .inr (.inl x) :: st' ∧ K (.inr (.inl (f x y)) :: st') := by
  unfold jaL2 at h
  split at h
  · exact ⟨_, _, _, rfl, h⟩
  · exact h.elim
theorem jaLd_elim {ls : List (Option jaV)} {n : Nat} {K : jaV → Prop} (h : jaLd ls n K) : ∃ v, ls[n]? = some (some v) ∧ K v := by
  unfold jaLd at h
  split at h
  · rename_i v hv
    exact ⟨v, jaN_get hv, h⟩
  · exact h.elim
theorem jaLi_elim {K : Int32 → Prop} {v : jaV} (h : jaLi K v) : ∃ x, v = .inl x ∧ K x := by
  unfold jaLi at h
  split at h
  · exact ⟨_, rfl, h⟩
  · exact h.elim
theorem jaLl_elim {K : Int64 → Prop} {v : jaV} (h : jaLl K v) : ∃ x, v = .inr (.inl x) ∧ K x := by
  unfold jaLl at h
  split at h
  · exact ⟨_, rfl, h⟩
  · exact h.elim
theorem jaLr_elim {K : jaR → Prop} {v : jaV} (h : jaLr K v) : ∃ x, v = .inr (.inr x) ∧ K x := by
  unfold jaLr at h
  split at h
  · exact ⟨_, rfl, h⟩
  · exact h.elim
theorem jaPop_elim {K : jaV → List jaV → Prop} {st : List jaV} (h : jaPop K st) : ∃ v st', st = v :: st' ∧ K v st' := by
  unfold jaPop at h
  split at h
  · exact ⟨_, _, rfl, h⟩
  · exact h.elim
theorem jaBif_elim {b : Bool} {P : Prop} (h : bif b then P else False) : b = true ∧ P := by
  cases b
  · exact h.elim
  · exact ⟨rfl, h⟩
theorem jaBnf_elim {b : Bool} {P : Prop} (h : bif b then False else P) : b = false ∧ P := by
  cases b
  · exact ⟨rfl, h⟩
  · exact h.elim
def jaVal : jaV → Prop
  | .inr (.inr r) => r ∈ jaRefs ∨ r ∈ jaSp
  | _ => True
def jaVs : List jaV → Prop
  | [] => True
  | v :: st => jaVal v ∧ jaVs st
def jaVl (ls : List (Option jaV)) : Prop := ∀ (i : Nat) (v : jaV), ls[i]? = some (some v) → jaVal v
theorem jaVs_mem : ∀ {st : List jaV}, (∀ v ∈ st, jaVal v) → jaVs st
  | [], _ => trivial
  | v :: st, h => ⟨h v List.mem_cons_self, jaVs_mem fun w hw => h w (List.mem_cons_of_mem _ hw)⟩
theorem jaVs_all : ∀ {st : List jaV}, jaVs st → ∀ v ∈ st, jaVal v
  | [], _, _, h => by cases h
  | w :: st, q, v, h => by
    rcases List.mem_cons.mp h with rfl | h
    · exact q.1
    · exact jaVs_all q.2 v h
theorem jaVl_set {ls : List (Option jaV)} {i : Nat} {v : jaV} (h : jaVl ls) (hv : jaVal v) (hi : i < ls.length) : jaVl (jaSet ls i v) := by
  intro j u hj
  rcases jaSet_get ls i v hi j u hj with ⟨-, rfl⟩ | ⟨-, e, -⟩
  · exact hv
  · exact h j u e
theorem jaVl_setL {ls : List (Option jaV)} {i : Nat} {v : Int64} (h : jaVl ls) (hi : i + 1 < ls.length) : jaVl (jaSetL ls i v) := by
  intro j u hj
  rcases jaSetL_get ls i v hi j u hj with ⟨-, rfl⟩ | ⟨-, -, e, -⟩
  · trivial
  · exact h j u e
def jaTB : List Jvm.Cond := lw_tbl.filter goodWord
def jaWds (y : Nat) : List Jvm.Cond := jaYw3 (jaY y) :: jaTB
def jaRm (d : Nat) : Room := { frames := d, cells := 0, slots := 0, locals := 64 * d }
def jaA0 (an : jaR → Nat) : Nat → Prop := fun q => ∃ r, r ∈ jaRefs ∧ q = an r
def jaPre (D : va_G) (dA : Nat → ClassId) (an : jaR → Nat) (sv : Value) (σ : jaT) (U : State) : Prop := jaEnv D dA an sv (jaA0 an) U U.heap ∧ jaHp D dA an (jaA0 an) σ U.heap
def jaQc (D : va_G) (dA : Nat → ClassId) (an : jaR → Nat) (rt : Nat) (S21 : jaS) (Q : jaQ) : Array Value → State → Outcome → State → Prop := match rt with
  | 0 => va_Qv (S := jaT) (fun u => Q none u) (fun u t => va_P D jaCl (jaWs dA an u) t.heap ∧ u 21 = S21) (jaA0 an)
  | 2 => va_Ql (S := jaT) (fun r u => Q (some (.inr (.inl r))) u) (fun u t => va_P D jaCl (jaWs dA an u) t.heap ∧ u 21 = S21) (jaA0 an)
  | _ => va_Qi (S := jaT) (fun r u => Q (some (.inl r)) u) (fun u t => va_P D jaCl (jaWs dA an u) t.heap ∧ u 21 = S21) (jaA0 an)
def jaMet (l : Launch) (D : va_G) (dA : Nat → ClassId) (an : jaR → Nat) (sv : Value) (d y : Nat) (as : List jaV) (σ : jaT) (Q : jaQ) : Prop :=
  Met l (jaY y).1 (jaWds y) (jaRm d) (va_Pc (as.map (jaTr an sv)) (jaPre D dA an sv σ)) (jaQc D dA an (jaRt y) (σ 21) Q) 0 0 (jaA0 an)
theorem jaHp.addr {D : va_G} {dA : Nat → ClassId} {an : jaR → Nat} {A : Nat → Prop} {σ τ : jaT} (h : va_D A (jaWs dA an σ)) : va_D A (jaWs dA an τ) := by
  have key : ∀ (i : Nat) (p : Nat × va_E), (jaWs dA an τ)[i]? = some p → ∃ p', (jaWs dA an σ)[i]? = some p' ∧ p'.1 = p.1 := by
    intro i p hp
    simp only [jaWs, List.getElem?_map, Option.map_eq_some_iff] at hp ⊢
    obtain ⟨r, hr, rfl⟩ := hp
    exact ⟨_, ⟨r, hr, rfl⟩, rfl⟩
  refine ⟨fun i j p q hp hq e => ?_, fun i p hp => ?_⟩
  · obtain ⟨p', h1, h2⟩ := key i p hp
    obtain ⟨q', h3, h4⟩ := key j q hq
    exact h.1 i j p' q' h1 h3 (h2.trans (e.trans h4.symm))
  · obtain ⟨p', h1, h2⟩ := key i p hp
    rw [← h2]
    exact h.2 i p' h1
theorem jaRefs_sort {r : jaR} (h : r ∈ jaRefs) : r.1 < 98 ∧ r.1 ≠ 96 ∧ r.2.1 ≠ 21 ∧ (match jaN (99, []) jaOb r.1 with
  | (ci, _ :: _) => (jaN (5, 0, 0, 0, false, false) jaAr r.1).1 = 5 ∧ ci < 12
  | (_, []) => (jaN (5, 0, 0, 0, false, false) jaAr r.1).1 < 5 ∧ (match jaN (5, 0, 0, 0, false, false) jaAr r.1 with
    | (4, _, o', _) => o' = 50 ∨ o' = 20 ∨ o' = 40
    | _ => True)) := by
  have h1 := List.all_eq_true.mp jaRefs_sort0 r h
  simp only [Bool.and_eq_true] at h1
  obtain ⟨⟨⟨h1, h2⟩, h3⟩, h4⟩ := h1
  refine ⟨by simpa [Nat.blt] using h1, by simpa using h2, by simpa using h3, ?_⟩
  revert h4
  rcases jaN (99, []) jaOb r.1 with ⟨ci, _ | ⟨t, ts⟩⟩
  · intro h4
    simp only [Bool.and_eq_true] at h4
    refine ⟨by simpa [Nat.blt] using h4.1, ?_⟩
    have h5 := h4.2
    revert h5
    rcases jaN (5, 0, 0, 0, false, false) jaAr r.1 with ⟨t, n, o', x⟩
    intro h5
    split
    · rename_i e
      cases e
      simp at h5
      omega
    · trivial
  · intro h4
    simp only [Bool.and_eq_true] at h4
    exact ⟨Nat.eq_of_beq_eq_true h4.1, by simpa [Nat.blt] using h4.2⟩
section
variable {p : Program} {l : Launch} {e : Env} {R : Room} {s : State} {m : MethodId} {args : Array Value} {below : List Frame} {meth : Method} {c : Code} {cells slots : Nat} {Qm : State → Prop}
variable {D : va_G} {dA : Nat → ClassId} {an : jaR → Nat} {sv : Value} {A : Nat → Prop} {cc : ByteArray} {nL rt own : Nat} {Ar : List jaA} {Γ : jaG} {f : List jaI} {ps : List Nat} {Q : jaQ} {X : jaX} {S21 : jaS} {d : Nat}
def jaSim (p : Program) (l : Launch) (e : Env) (R : Room) (s : State) (m : MethodId) (args : Array Value) (below : List Frame) (meth : Method) (c : Code) (D : va_G) (dA : Nat → ClassId) (an : jaR → Nat) (sv : Value) (A : Nat → Prop) (nL : Nat) (f : List jaI) (S21 : jaS) (cells slots : Nat) (Qm : State → Prop) : jaX := fun is ls st σ =>
  (∃ n : Nat, is = f.drop n) → jaVl ls → jaVs st → σ 21 = S21 → ∀ (H : Heap) (locs : List Loc) (lsA : Array Slot), jaLh an sv lsA nL ls → jaHp D dA an A σ H → va_S A s.heap H locs → W p l e R s m args below meth c H locs cells slots Qm (F0 m (jaPc is) lsA (st.map (jaTr an sv)))
def jaRets (p : Program) (l : Launch) (e : Env) (R : Room) (s : State) (m : MethodId) (args : Array Value) (below : List Frame) (meth : Method) (c : Code) (D : va_G) (dA : Nat → ClassId) (an : jaR → Nat) (sv : Value) (A : Nat → Prop) (cc : ByteArray) (rt : Nat) (S21 : jaS) (cells slots : Nat) (Q : jaQ) (Qm : State → Prop) : Prop :=
  ∀ (r : Option jaV) (σ : jaT) (H : Heap) (locs : List Loc) (pc : Nat) (lsA : Array Slot), Q r σ → σ 21 = S21 → jaHp D dA an A σ H → va_S A s.heap H locs →
    ((rt = 0 ∧ r = none ∧ decode cc pc = .ok (.return_, 1)) ∨ (rt = 2 ∧ (∃ x, r = some (.inr (.inl x))) ∧ decode cc pc = .ok (.lreturn, 1)) ∨ ((∃ x, r = some (.inl x) ∧ (rt = 1 ∨ (rt = 3 ∧ (x = 0 ∨ x = 1)) ∨ (rt = 4 ∧ (x.toUInt32 % 65536).toInt32 = x) ∨ (rt = 5 ∧ x.toInt8.toInt32 = x))) ∧ decode cc pc = .ok (.ireturn, 1))) →
    W p l e R s m args below meth c H locs cells slots Qm (F0 m pc lsA (r.toList.map (jaTr an sv)))
set_option maxHeartbeats 40000000 in
set_option maxRecDepth 10000 in
theorem jaSim_step (hx : p.tables.exec = Jvm.exec) (hb : c.code = cc) (hml : c.maxLocals = nL) (hown : s.vm.findClass (jaN "" jaOn own) = some m.cls) (hts : ∀ w ∈ lw_tbl, goodWord w = true → w.before args s = true) (hE : jaEnv D dA an sv A s s.heap) (hs : sv = .null ∨ ∃ a, sv = .ref a) (hf : jaCk own cc nL rt f ps f = true)
    (hAr : ∀ o, o ≠ 96 → jaN (5, 0, 0, 0, false, false) Ar o = jaN (5, 0, 0, 0, false, false) jaAr o) (hA96 : (jaN (5, 0, 0, 0, false, false) Ar 96).1 = 5 ∨ ∃ L r, jaN (5, 0, 0, 0, false, false) Ar 96 = (7, L, r) ∧ va_X (an (96, 21, 0)) L (fun j => S21.1 96 0 j) s s.heap ∧ ¬ A (an (96, 21, 0)))
    (hΓ : ∀ y as σ Q', y < 303 → jaVs as → Γ y as σ Q' → jaMet l D dA an sv d y as σ Q') (hA0 : ∀ q, jaA0 an q → A q) (hRf : d + 1 ≤ R.frames) (hRl : 64 * (d + 1) ≤ R.locals) (hcl : cells ≤ R.cells) (hsl : slots ≤ R.slots)
    (hret : jaRets p l e R s m args below meth c D dA an sv A cc rt S21 cells slots Q Qm)
    (hX : ∀ is ls st σ, X is ls st σ → jaSim p l e R s m args below meth c D dA an sv A nL f S21 cells slots Qm is ls st σ) :
    ∀ is ls st σ, jaStep Ar Γ Q X (jaSim p l e R s m args below meth c D dA an sv A nL f S21 cells slots Qm) (fun a => jaSim p l e R s m args below meth c D dA an sv A nL f S21 cells slots Qm (jaAt f ps a)) is ls st σ → jaSim p l e R s m args below meth c D dA an sv A nL f S21 cells slots Qm is ls st σ := by
  rintro is ls st σ h ⟨n0, hn0⟩ hvl hvs h21 H locs lsA hlh hhp hS
  have hck : jaCk own cc nL rt f ps is = true := by rw [hn0]; exact jaCk_drop n0 f hf
  cases is with
  | nil => exact h.elim
  | cons q is =>
  obtain ⟨pc, i, a0, lx⟩ := q
  have hsuf : ∃ n : Nat, is = f.drop n := ⟨n0 + 1, by rw [Nat.add_comm, ← List.drop_drop, ← hn0] <;> rfl⟩
  rw [jaCk, Bool.and_eq_true] at hck
  obtain ⟨hc, -⟩ := hck
  have hlen : ls.length = nL := hlh.1
  show W p l e R s m args below meth c H locs cells slots Qm (F0 m pc lsA (st.map (jaTr an sv)))
  have hat : ∀ a, ∃ n : Nat, jaAt f ps a = f.drop n := fun a => ⟨_, rfl⟩
  cases i with
  | nop =>
    simp only [jaCk1, Bool.and_eq_true] at hc
    have hn : jaPc is = pc := Nat.eq_of_beq_eq_true hc.2
    have e1 : jaN 0 ps a0 + is.length = f.length := Nat.eq_of_beq_eq_true hc.1
    obtain ⟨n1, hn1⟩ := hsuf
    have e2 : jaAt f ps a0 = is := by
      unfold jaAt
      rw [hn1]
      have e3 : is.length = f.length - n1 := by rw [hn1, List.length_drop]
      rcases Nat.lt_or_ge n1 f.length with q | q
      · rw [show jaN 0 ps a0 = n1 by omega]
      · rw [List.drop_eq_nil_of_le q, List.drop_eq_nil_of_le (by omega)]
    have q := h (hat a0) hvl hvs h21 H locs lsA hlh hhp hS
    rw [e2, hn] at q
    exact q
  | aload_n n =>
    simp only [jaCk1, Bool.and_eq_true] at hc
    have hd := jaD_ok hc.1
    have hn : jaPc is = pc + 1 := Nat.eq_of_beq_eq_true hc.2
    obtain ⟨v, hv, h'⟩ := jaLd_elim h
    obtain ⟨r, rfl, h'⟩ := jaLr_elim h'
    obtain ⟨h4, h'⟩ := jaBnf_elim h'
    have q := h' hsuf hvl ⟨hvl _ _ hv, hvs⟩ h21 H locs lsA hlh hhp hS
    rw [hn] at q
    have e1 : jaTr an sv (.inr (.inr r)) = .ref (an r) := by simp only [jaTr, jaAd, h4, cond_false]
    have hl := hlh.2.2.2 _ _ hv
    rw [e1] at hl
    have q : W p l e R s m args below meth c H locs cells slots Qm (F0 m (pc + 1) lsA (jaTr an sv (.inr (.inr r)) :: st.map (jaTr an sv))) := q
    rw [e1] at q
    exact lv_aload_n hx hb hd rfl hl q
  | aload n =>
    simp only [jaCk1, Bool.and_eq_true] at hc
    have hd := jaD_ok hc.1
    have hn : jaPc is = pc + 2 := Nat.eq_of_beq_eq_true hc.2
    obtain ⟨v, hv, h'⟩ := jaLd_elim h
    obtain ⟨r, rfl, h'⟩ := jaLr_elim h'
    obtain ⟨h4, h'⟩ := jaBnf_elim h'
    have q := h' hsuf hvl ⟨hvl _ _ hv, hvs⟩ h21 H locs lsA hlh hhp hS
    rw [hn] at q
    have e1 : jaTr an sv (.inr (.inr r)) = .ref (an r) := by simp only [jaTr, jaAd, h4, cond_false]
    have hl := hlh.2.2.2 _ _ hv
    rw [e1] at hl
    have q : W p l e R s m args below meth c H locs cells slots Qm (F0 m (pc + 2) lsA (jaTr an sv (.inr (.inr r)) :: st.map (jaTr an sv))) := q
    rw [e1] at q
    exact lv_aload hx hb hd hl q
  | iload_n n =>
    simp only [jaCk1, Bool.and_eq_true] at hc
    have hd := jaD_ok hc.1
    have hn : jaPc is = pc + 1 := Nat.eq_of_beq_eq_true hc.2
    obtain ⟨v, hv, h'⟩ := jaLd_elim h
    obtain ⟨r, rfl, h'⟩ := jaLi_elim h'
    have q := h' hsuf hvl ⟨trivial, hvs⟩ h21 H locs lsA hlh hhp hS
    rw [hn] at q
    exact lv_iload_n hx hb hd rfl (hlh.2.2.2 _ _ hv) q
  | iload n =>
    simp only [jaCk1, Bool.and_eq_true] at hc
    have hd := jaD_ok hc.1
    have hn : jaPc is = pc + 2 := Nat.eq_of_beq_eq_true hc.2
    obtain ⟨v, hv, h'⟩ := jaLd_elim h
    obtain ⟨r, rfl, h'⟩ := jaLi_elim h'
    have q := h' hsuf hvl ⟨trivial, hvs⟩ h21 H locs lsA hlh hhp hS
    rw [hn] at q
    exact lv_iload hx hb hd (hlh.2.2.2 _ _ hv) q
  | lload_n n =>
    simp only [jaCk1, Bool.and_eq_true] at hc
    have hd := jaD_ok hc.1
    have hn : jaPc is = pc + 1 := Nat.eq_of_beq_eq_true hc.2
    obtain ⟨v, hv, h'⟩ := jaLd_elim h
    obtain ⟨r, rfl, h'⟩ := jaLl_elim h'
    have q := h' hsuf hvl ⟨trivial, hvs⟩ h21 H locs lsA hlh hhp hS
    rw [hn] at q
    exact lv_lload_n hx hb hd rfl (hlh.2.2.2 _ _ hv) q
  | lload n =>
    simp only [jaCk1, Bool.and_eq_true] at hc
    have hd := jaD_ok hc.1
    have hn : jaPc is = pc + 2 := Nat.eq_of_beq_eq_true hc.2
    obtain ⟨v, hv, h'⟩ := jaLd_elim h
    obtain ⟨r, rfl, h'⟩ := jaLl_elim h'
    have q := h' hsuf hvl ⟨trivial, hvs⟩ h21 H locs lsA hlh hhp hS
    rw [hn] at q
    exact lv_lload hx hb hd (hlh.2.2.2 _ _ hv) q
  | istore_n n =>
    simp only [jaCk1, Bool.and_eq_true] at hc
    have hd := jaD_ok hc.1.1
    have hn : jaPc is = pc + 1 := Nat.eq_of_beq_eq_true hc.1.2
    have hi : (n : Nat) < nL := by simpa [Nat.blt] using hc.2
    obtain ⟨v, st', rfl, h'⟩ := jaPop_elim h
    obtain ⟨r, rfl, h'⟩ := jaLi_elim h'
    refine lv_istore_n hx hb hd rfl hlh.has hi rfl (fun ls' hl' => ?_)
    have hl2 := jaLh.set (v := .inl r) hs hlen hi hl'
    have q := h' hsuf (jaVl_set hvl trivial (by omega)) hvs.2 h21 H locs ls' hl2 hhp hS
    rw [hn] at q
    exact q
  | istore n =>
    simp only [jaCk1, Bool.and_eq_true] at hc
    have hd := jaD_ok hc.1.1
    have hn : jaPc is = pc + 2 := Nat.eq_of_beq_eq_true hc.1.2
    have hi : (n : Nat) < nL := by simpa [Nat.blt] using hc.2
    obtain ⟨v, st', rfl, h'⟩ := jaPop_elim h
    obtain ⟨r, rfl, h'⟩ := jaLi_elim h'
    refine lv_istore hx hb hd hlh.has hi rfl (fun ls' hl' => ?_)
    have hl2 := jaLh.set (v := .inl r) hs hlen hi hl'
    have q := h' hsuf (jaVl_set hvl trivial (by omega)) hvs.2 h21 H locs ls' hl2 hhp hS
    rw [hn] at q
    exact q
  | astore_n n =>
    simp only [jaCk1, Bool.and_eq_true] at hc
    have hd := jaD_ok hc.1.1
    have hn : jaPc is = pc + 1 := Nat.eq_of_beq_eq_true hc.1.2
    have hi : (n : Nat) < nL := by simpa [Nat.blt] using hc.2
    obtain ⟨v, st', rfl, h'⟩ := jaPop_elim h
    obtain ⟨r, rfl, h'⟩ := jaLr_elim h'
    obtain ⟨h4, h'⟩ := jaBnf_elim h'
    have e1 : jaTr an sv (.inr (.inr r)) = .ref (an r) := by simp only [jaTr, jaAd, h4, cond_false]
    show W p l e R s m args below meth c H locs cells slots Qm (F0 m pc lsA (jaTr an sv (.inr (.inr r)) :: st'.map (jaTr an sv)))
    rw [e1]
    refine lv_astore_n hx hb hd rfl hlh.has hi rfl (fun ls' hl' => ?_)
    have hl2 := jaLh.set (v := .inr (.inr r)) hs hlen hi (by rw [e1]; exact hl')
    have q := h' hsuf (jaVl_set hvl hvs.1 (by omega)) hvs.2 h21 H locs ls' hl2 hhp hS
    rw [hn] at q
    exact q
  | astore n =>
    simp only [jaCk1, Bool.and_eq_true] at hc
    have hd := jaD_ok hc.1.1
    have hn : jaPc is = pc + 2 := Nat.eq_of_beq_eq_true hc.1.2
    have hi : (n : Nat) < nL := by simpa [Nat.blt] using hc.2
    obtain ⟨v, st', rfl, h'⟩ := jaPop_elim h
    obtain ⟨r, rfl, h'⟩ := jaLr_elim h'
    obtain ⟨h4, h'⟩ := jaBnf_elim h'
    have e1 : jaTr an sv (.inr (.inr r)) = .ref (an r) := by simp only [jaTr, jaAd, h4, cond_false]
    show W p l e R s m args below meth c H locs cells slots Qm (F0 m pc lsA (jaTr an sv (.inr (.inr r)) :: st'.map (jaTr an sv)))
    rw [e1]
    refine lv_astore hx hb hd hlh.has hi rfl (fun ls' hl' => ?_)
    have hl2 := jaLh.set (v := .inr (.inr r)) hs hlen hi (by rw [e1]; exact hl')
    have q := h' hsuf (jaVl_set hvl hvs.1 (by omega)) hvs.2 h21 H locs ls' hl2 hhp hS
    rw [hn] at q
    exact q
  | lstore_n n =>
    simp only [jaCk1, Bool.and_eq_true] at hc
    have hd := jaD_ok hc.1.1
    have hn : jaPc is = pc + 1 := Nat.eq_of_beq_eq_true hc.1.2
    have hi : (n : Nat) + 1 < nL := by simpa [Nat.blt] using hc.2
    obtain ⟨v, st', rfl, h'⟩ := jaPop_elim h
    obtain ⟨r, rfl, h'⟩ := jaLl_elim h'
    refine lv_lstore_n hx hb hd rfl hlh.has hi rfl (fun ls' hl' => ?_)
    have hl2 := jaLh.setL (v := r) hs hlen hi hl'
    have q := h' hsuf (jaVl_setL hvl (by omega)) hvs.2 h21 H locs ls' hl2 hhp hS
    rw [hn] at q
    exact q
  | lstore n =>
    simp only [jaCk1, Bool.and_eq_true] at hc
    have hd := jaD_ok hc.1.1
    have hn : jaPc is = pc + 2 := Nat.eq_of_beq_eq_true hc.1.2
    have hi : (n : Nat) + 1 < nL := by simpa [Nat.blt] using hc.2
    obtain ⟨v, st', rfl, h'⟩ := jaPop_elim h
    obtain ⟨r, rfl, h'⟩ := jaLl_elim h'
    refine lv_lstore hx hb hd hlh.has hi rfl (fun ls' hl' => ?_)
    have hl2 := jaLh.setL (v := r) hs hlen hi hl'
    have q := h' hsuf (jaVl_setL hvl (by omega)) hvs.2 h21 H locs ls' hl2 hhp hS
    rw [hn] at q
    exact q
  | iconst n =>
    simp only [jaCk1, Bool.and_eq_true] at hc
    have hd := jaD_ok hc.1
    have hn : jaPc is = pc + 1 := Nat.eq_of_beq_eq_true hc.2
    have h' := h
    have q := h' hsuf hvl ⟨trivial, hvs⟩ h21 H locs lsA hlh hhp hS
    rw [hn] at q
    exact lv_iconst hx hb hd rfl q
  | bipush n =>
    simp only [jaCk1, Bool.and_eq_true] at hc
    have hd := jaD_ok hc.1
    have hn : jaPc is = pc + 2 := Nat.eq_of_beq_eq_true hc.2
    have h' := h
    have q := h' hsuf hvl ⟨trivial, hvs⟩ h21 H locs lsA hlh hhp hS
    rw [hn] at q
    exact lv_bipush hx hb hd rfl q
  | sipush n =>
    simp only [jaCk1, Bool.and_eq_true] at hc
    have hd := jaD_ok hc.1
    have hn : jaPc is = pc + 3 := Nat.eq_of_beq_eq_true hc.2
    have h' := h
    have q := h' hsuf hvl ⟨trivial, hvs⟩ h21 H locs lsA hlh hhp hS
    rw [hn] at q
    exact lv_sipush hx hb hd rfl q
  | lconst n =>
    simp only [jaCk1, Bool.and_eq_true] at hc
    have hd := jaD_ok hc.1
    have hn : jaPc is = pc + 1 := Nat.eq_of_beq_eq_true hc.2
    have h' := h
    have q := h' hsuf hvl ⟨trivial, hvs⟩ h21 H locs lsA hlh hhp hS
    rw [hn] at q
    exact lv_lconst hx hb hd rfl q
  | ldc idx =>
    simp only [jaCk1, Bool.and_eq_true] at hc
    have hd := jaD_ok hc.1.1
    have hn : jaPc is = pc + 2 := Nat.eq_of_beq_eq_true hc.1.2
    dsimp only [jaStep] at h
    split at h
    · have h' := h
      have q := h' hsuf hvl ⟨trivial, hvs⟩ h21 H locs lsA hlh hhp hS
      rw [hn] at q
      exact lv_ldc hx hb hown (hts _ (jaOk_in jaWI_ok _ (jaHas3_in hc.2)) rfl) hd q
    · have h' := h
      have hc2 := hc.2
      simp only [Bool.and_eq_true, Bool.or_eq_true] at hc2
      obtain ⟨ho, hk⟩ := hc2
      have ho := Nat.eq_of_beq_eq_true ho
      subst ho
      rcases hk with ⟨⟨k1, k2⟩, k3⟩ | ⟨⟨k1, k2⟩, k3⟩
      · have k1 := Nat.eq_of_beq_eq_true k1
        have k2 := Nat.eq_of_beq_eq_true k2
        have k3 := Nat.eq_of_beq_eq_true k3
        subst k1; subst k2; subst k3
        have q := h' hsuf hvl ⟨Or.inr (by decide), hvs⟩ h21 H locs lsA hlh hhp hS
        rw [hn] at q
        exact va_ldcS (own := "AgreedInput$Reader") (tx := jaS0) hx hb hown hE.2.2.1 hd q
      · have k1 := Nat.eq_of_beq_eq_true k1
        have k2 := Nat.eq_of_beq_eq_true k2
        have k3 := Nat.eq_of_beq_eq_true k3
        subst k1; subst k2; subst k3
        have q := h' hsuf hvl ⟨Or.inr (by decide), hvs⟩ h21 H locs lsA hlh hhp hS
        rw [hn] at q
        exact va_ldcS (own := "AgreedInput$Reader") (tx := jaS1) hx hb hown hE.2.2.2.1 hd q
    · exact hX _ _ _ _ h ⟨n0, hn0⟩ hvl hvs h21 H locs lsA hlh hhp hS
  | ldc_w idx =>
    simp only [jaCk1, Bool.and_eq_true] at hc
    have hd := jaD_ok hc.1.1
    have hn : jaPc is = pc + 3 := Nat.eq_of_beq_eq_true hc.1.2
    dsimp only [jaStep] at h
    split at h
    · have h' := h
      have q := h' hsuf hvl ⟨trivial, hvs⟩ h21 H locs lsA hlh hhp hS
      rw [hn] at q
      exact lv_ldcw hx hb hown (hts _ (jaOk_in jaWI_ok _ (jaHas3_in hc.2)) rfl) hd q
    · exact hX _ _ _ _ h ⟨n0, hn0⟩ hvl hvs h21 H locs lsA hlh hhp hS
  | ldc2_w idx =>
    simp only [jaCk1, Bool.and_eq_true] at hc
    have hd := jaD_ok hc.1.1
    have hn : jaPc is = pc + 3 := Nat.eq_of_beq_eq_true hc.1.2
    have h' := h
    have q := h' hsuf hvl ⟨trivial, hvs⟩ h21 H locs lsA hlh hhp hS
    rw [hn] at q
    exact lv_ldc2 hx hb hown (hts _ (jaOk_in jaWL_ok _ (jaHas3_in hc.2)) rfl) hd q
  | iinc n v =>
    simp only [jaCk1, Bool.and_eq_true] at hc
    have hd := jaD_ok hc.1.1
    have hn : jaPc is = pc + 3 := Nat.eq_of_beq_eq_true hc.1.2
    have hi : n < nL := by simpa [Nat.blt] using hc.2
    obtain ⟨w, hw, h'⟩ := jaLd_elim h
    obtain ⟨r, rfl, h'⟩ := jaLi_elim h'
    obtain ⟨k, hk⟩ := List.getElem?_of_mem (jaLv_mem (an := an) (sv := sv) hw)
    refine lv_iinc hx hb hd hlh.has hk rfl hi rfl (fun ls' hl' => ?_)
    have hl2 := jaLh.set (v := .inl (r + Int32.ofInt v)) hs hlen hi hl'
    have q := h' hsuf (jaVl_set hvl trivial (by omega)) hvs h21 H locs ls' hl2 hhp hS
    rw [hn] at q
    exact q
  | iadd =>
    simp only [jaCk1, Bool.and_eq_true] at hc
    have hd := jaD_ok hc.1
    have hn : jaPc is = pc + 1 := Nat.eq_of_beq_eq_true hc.2
    obtain ⟨x, y, st', rfl, h'⟩ := jaB2_elim h
    have q := h' hsuf hvl ⟨trivial, hvs.2.2⟩ h21 H locs lsA hlh hhp hS
    rw [hn] at q
    exact lv_iadd hx hb hd q
  | isub =>
    simp only [jaCk1, Bool.and_eq_true] at hc
    have hd := jaD_ok hc.1
    have hn : jaPc is = pc + 1 := Nat.eq_of_beq_eq_true hc.2
    obtain ⟨x, y, st', rfl, h'⟩ := jaB2_elim h
    have q := h' hsuf hvl ⟨trivial, hvs.2.2⟩ h21 H locs lsA hlh hhp hS
    rw [hn] at q
    exact lv_isub hx hb hd q
  | imul =>
    simp only [jaCk1, Bool.and_eq_true] at hc
    have hd := jaD_ok hc.1
    have hn : jaPc is = pc + 1 := Nat.eq_of_beq_eq_true hc.2
    obtain ⟨x, y, st', rfl, h'⟩ := jaB2_elim h
    have q := h' hsuf hvl ⟨trivial, hvs.2.2⟩ h21 H locs lsA hlh hhp hS
    rw [hn] at q
    exact lv_imul hx hb hd q
  | iand =>
    simp only [jaCk1, Bool.and_eq_true] at hc
    have hd := jaD_ok hc.1
    have hn : jaPc is = pc + 1 := Nat.eq_of_beq_eq_true hc.2
    obtain ⟨x, y, st', rfl, h'⟩ := jaB2_elim h
    have q := h' hsuf hvl ⟨trivial, hvs.2.2⟩ h21 H locs lsA hlh hhp hS
    rw [hn] at q
    exact lv_iand hx hb hd q
  | ior =>
    simp only [jaCk1, Bool.and_eq_true] at hc
    have hd := jaD_ok hc.1
    have hn : jaPc is = pc + 1 := Nat.eq_of_beq_eq_true hc.2
    obtain ⟨x, y, st', rfl, h'⟩ := jaB2_elim h
    have q := h' hsuf hvl ⟨trivial, hvs.2.2⟩ h21 H locs lsA hlh hhp hS
    rw [hn] at q
    exact lv_ior hx hb hd q
  | ixor =>
    simp only [jaCk1, Bool.and_eq_true] at hc
    have hd := jaD_ok hc.1
    have hn : jaPc is = pc + 1 := Nat.eq_of_beq_eq_true hc.2
    obtain ⟨x, y, st', rfl, h'⟩ := jaB2_elim h
    have q := h' hsuf hvl ⟨trivial, hvs.2.2⟩ h21 H locs lsA hlh hhp hS
    rw [hn] at q
    exact lv_ixor hx hb hd q
  | ishl =>
    simp only [jaCk1, Bool.and_eq_true] at hc
    have hd := jaD_ok hc.1
    have hn : jaPc is = pc + 1 := Nat.eq_of_beq_eq_true hc.2
    obtain ⟨x, y, st', rfl, h'⟩ := jaB2_elim h
    have q := h' hsuf hvl ⟨trivial, hvs.2.2⟩ h21 H locs lsA hlh hhp hS
    rw [hn] at q
    exact lv_ishl hx hb hd q
  | ishr =>
    simp only [jaCk1, Bool.and_eq_true] at hc
    have hd := jaD_ok hc.1
    have hn : jaPc is = pc + 1 := Nat.eq_of_beq_eq_true hc.2
    obtain ⟨x, y, st', rfl, h'⟩ := jaB2_elim h
    have q := h' hsuf hvl ⟨trivial, hvs.2.2⟩ h21 H locs lsA hlh hhp hS
    rw [hn] at q
    exact lv_ishr hx hb hd q
  | iushr =>
    simp only [jaCk1, Bool.and_eq_true] at hc
    have hd := jaD_ok hc.1
    have hn : jaPc is = pc + 1 := Nat.eq_of_beq_eq_true hc.2
    obtain ⟨x, y, st', rfl, h'⟩ := jaB2_elim h
    have q := h' hsuf hvl ⟨trivial, hvs.2.2⟩ h21 H locs lsA hlh hhp hS
    rw [hn] at q
    exact lv_iushr hx hb hd rfl q
  | irem =>
    simp only [jaCk1, Bool.and_eq_true] at hc
    have hd := jaD_ok hc.1
    have hn : jaPc is = pc + 1 := Nat.eq_of_beq_eq_true hc.2
    obtain ⟨v, st', rfl, h'⟩ := jaPop_elim h
    obtain ⟨y, rfl, hy, h'⟩ := jaLi_elim h'
    obtain ⟨x, st'', rfl, h'⟩ := jaB1_elim h'
    have q := h' hsuf hvl ⟨trivial, hvs.2.2⟩ h21 H locs lsA hlh hhp hS
    rw [hn] at q
    exact lv_irem hx hb hd hy q
  | ineg =>
    simp only [jaCk1, Bool.and_eq_true] at hc
    have hd := jaD_ok hc.1
    have hn : jaPc is = pc + 1 := Nat.eq_of_beq_eq_true hc.2
    obtain ⟨x, st', rfl, h'⟩ := jaB1_elim h
    have q := h' hsuf hvl ⟨trivial, hvs.2⟩ h21 H locs lsA hlh hhp hS
    rw [hn] at q
    exact lv_ineg hx hb hd q
  | i2b =>
    simp only [jaCk1, Bool.and_eq_true] at hc
    have hd := jaD_ok hc.1
    have hn : jaPc is = pc + 1 := Nat.eq_of_beq_eq_true hc.2
    obtain ⟨x, st', rfl, h'⟩ := jaB1_elim h
    have q := h' hsuf hvl ⟨trivial, hvs.2⟩ h21 H locs lsA hlh hhp hS
    rw [hn] at q
    exact lv_i2b hx hb hd rfl q
  | i2c =>
    simp only [jaCk1, Bool.and_eq_true] at hc
    have hd := jaD_ok hc.1
    have hn : jaPc is = pc + 1 := Nat.eq_of_beq_eq_true hc.2
    obtain ⟨x, st', rfl, h'⟩ := jaB1_elim h
    have q := h' hsuf hvl ⟨trivial, hvs.2⟩ h21 H locs lsA hlh hhp hS
    rw [hn] at q
    exact lv_i2c hx hb hd rfl q
  | ladd =>
    simp only [jaCk1, Bool.and_eq_true] at hc
    have hd := jaD_ok hc.1
    have hn : jaPc is = pc + 1 := Nat.eq_of_beq_eq_true hc.2
    obtain ⟨x, y, st', rfl, h'⟩ := jaL2_elim h
    have q := h' hsuf hvl ⟨trivial, hvs.2.2⟩ h21 H locs lsA hlh hhp hS
    rw [hn] at q
    exact lv_ladd hx hb hd q
  | lsub =>
    simp only [jaCk1, Bool.and_eq_true] at hc
    have hd := jaD_ok hc.1
    have hn : jaPc is = pc + 1 := Nat.eq_of_beq_eq_true hc.2
    obtain ⟨x, y, st', rfl, h'⟩ := jaL2_elim h
    have q := h' hsuf hvl ⟨trivial, hvs.2.2⟩ h21 H locs lsA hlh hhp hS
    rw [hn] at q
    exact lv_lsub hx hb hd q
  | lmul =>
    simp only [jaCk1, Bool.and_eq_true] at hc
    have hd := jaD_ok hc.1
    have hn : jaPc is = pc + 1 := Nat.eq_of_beq_eq_true hc.2
    obtain ⟨x, y, st', rfl, h'⟩ := jaL2_elim h
    have q := h' hsuf hvl ⟨trivial, hvs.2.2⟩ h21 H locs lsA hlh hhp hS
    rw [hn] at q
    exact lv_lmul hx hb hd q
  | land =>
    simp only [jaCk1, Bool.and_eq_true] at hc
    have hd := jaD_ok hc.1
    have hn : jaPc is = pc + 1 := Nat.eq_of_beq_eq_true hc.2
    obtain ⟨x, y, st', rfl, h'⟩ := jaL2_elim h
    have q := h' hsuf hvl ⟨trivial, hvs.2.2⟩ h21 H locs lsA hlh hhp hS
    rw [hn] at q
    exact lv_land hx hb hd q
  | lor =>
    simp only [jaCk1, Bool.and_eq_true] at hc
    have hd := jaD_ok hc.1
    have hn : jaPc is = pc + 1 := Nat.eq_of_beq_eq_true hc.2
    obtain ⟨x, y, st', rfl, h'⟩ := jaL2_elim h
    have q := h' hsuf hvl ⟨trivial, hvs.2.2⟩ h21 H locs lsA hlh hhp hS
    rw [hn] at q
    exact lv_lor hx hb hd q
  | lxor =>
    simp only [jaCk1, Bool.and_eq_true] at hc
    have hd := jaD_ok hc.1
    have hn : jaPc is = pc + 1 := Nat.eq_of_beq_eq_true hc.2
    obtain ⟨x, y, st', rfl, h'⟩ := jaL2_elim h
    have q := h' hsuf hvl ⟨trivial, hvs.2.2⟩ h21 H locs lsA hlh hhp hS
    rw [hn] at q
    exact lv_lxor hx hb hd q
  | lshl =>
    simp only [jaCk1, Bool.and_eq_true] at hc
    have hd := jaD_ok hc.1
    have hn : jaPc is = pc + 1 := Nat.eq_of_beq_eq_true hc.2
    obtain ⟨v, st', rfl, h'⟩ := jaPop_elim h
    obtain ⟨y, rfl, h'⟩ := jaLi_elim h'
    obtain ⟨v, st'', rfl, h'⟩ := jaPop_elim h'
    obtain ⟨x, rfl, h'⟩ := jaLl_elim h'
    have q := h' hsuf hvl ⟨trivial, hvs.2.2⟩ h21 H locs lsA hlh hhp hS
    rw [hn] at q
    exact lv_lshl hx hb hd rfl q
  | lushr =>
    simp only [jaCk1, Bool.and_eq_true] at hc
    have hd := jaD_ok hc.1
    have hn : jaPc is = pc + 1 := Nat.eq_of_beq_eq_true hc.2
    obtain ⟨v, st', rfl, h'⟩ := jaPop_elim h
    obtain ⟨y, rfl, h'⟩ := jaLi_elim h'
    obtain ⟨v, st'', rfl, h'⟩ := jaPop_elim h'
    obtain ⟨x, rfl, h'⟩ := jaLl_elim h'
    have q := h' hsuf hvl ⟨trivial, hvs.2.2⟩ h21 H locs lsA hlh hhp hS
    rw [hn] at q
    exact lv_lushr hx hb hd rfl q
  | lcmp =>
    simp only [jaCk1, Bool.and_eq_true] at hc
    have hd := jaD_ok hc.1
    have hn : jaPc is = pc + 1 := Nat.eq_of_beq_eq_true hc.2
    obtain ⟨v, st', rfl, h'⟩ := jaPop_elim h
    obtain ⟨y, rfl, h'⟩ := jaLl_elim h'
    obtain ⟨v, st'', rfl, h'⟩ := jaPop_elim h'
    obtain ⟨x, rfl, h'⟩ := jaLl_elim h'
    have q := h' hsuf hvl ⟨trivial, hvs.2.2⟩ h21 H locs lsA hlh hhp hS
    rw [hn] at q
    exact W.lcmp hx hb hd q
  | i2l =>
    simp only [jaCk1, Bool.and_eq_true] at hc
    have hd := jaD_ok hc.1
    have hn : jaPc is = pc + 1 := Nat.eq_of_beq_eq_true hc.2
    obtain ⟨v, st', rfl, h'⟩ := jaPop_elim h
    obtain ⟨x, rfl, h'⟩ := jaLi_elim h'
    have q := h' hsuf hvl ⟨trivial, hvs.2⟩ h21 H locs lsA hlh hhp hS
    rw [hn] at q
    exact lv_i2l hx hb hd rfl q
  | l2i =>
    simp only [jaCk1, Bool.and_eq_true] at hc
    have hd := jaD_ok hc.1
    have hn : jaPc is = pc + 1 := Nat.eq_of_beq_eq_true hc.2
    obtain ⟨v, st', rfl, h'⟩ := jaPop_elim h
    obtain ⟨x, rfl, h'⟩ := jaLl_elim h'
    have q := h' hsuf hvl ⟨trivial, hvs.2⟩ h21 H locs lsA hlh hhp hS
    rw [hn] at q
    exact lv_l2i hx hb hd rfl q
  | dup =>
    simp only [jaCk1, Bool.and_eq_true] at hc
    have hd := jaD_ok hc.1
    have hn : jaPc is = pc + 1 := Nat.eq_of_beq_eq_true hc.2
    dsimp only [jaStep] at h
    split at h
    · have h' := h
      have q := h' hsuf hvl ⟨trivial, trivial, hvs.2⟩ h21 H locs lsA hlh hhp hS
      rw [hn] at q
      exact lv_dup hx hb hd rfl q
    · have h' := h
      have q := h' hsuf hvl ⟨hvs.1, hvs.1, hvs.2⟩ h21 H locs lsA hlh hhp hS
      rw [hn] at q
      exact lv_dup hx hb hd (by rw [jaTr_cat hs]; rfl) q
    · exact h.elim
  | dup_x1 =>
    simp only [jaCk1, Bool.and_eq_true] at hc
    have hd := jaD_ok hc.1
    have hn : jaPc is = pc + 1 := Nat.eq_of_beq_eq_true hc.2
    dsimp only [jaStep] at h
    split at h
    · have h' := h
      have q := h' hsuf hvl ⟨trivial, hvs.2.1, trivial, hvs.2.2⟩ h21 H locs lsA hlh hhp hS
      rw [hn] at q
      exact lv_dup_x1 hx hb hd rfl (by rw [jaTr_cat hs]; rfl) q
    · exact h.elim
  | dup2 =>
    simp only [jaCk1, Bool.and_eq_true] at hc
    have hd := jaD_ok hc.1
    have hn : jaPc is = pc + 1 := Nat.eq_of_beq_eq_true hc.2
    dsimp only [jaStep] at h
    split at h
    · have h' := h
      have q := h' hsuf hvl ⟨trivial, hvs.2.1, trivial, hvs.2.1, hvs.2.2⟩ h21 H locs lsA hlh hhp hS
      rw [hn] at q
      exact lv_dup2_11 hx hb hd rfl (by rw [jaTr_cat hs]; rfl) q
    · exact h.elim
  | pop =>
    simp only [jaCk1, Bool.and_eq_true] at hc
    have hd := jaD_ok hc.1
    have hn : jaPc is = pc + 1 := Nat.eq_of_beq_eq_true hc.2
    dsimp only [jaStep] at h
    split at h
    · have h' := h
      have q := h' hsuf hvl hvs.2 h21 H locs lsA hlh hhp hS
      rw [hn] at q
      exact lv_pop hx hb hd rfl q
    · exact h.elim
  | goto off =>
    dsimp only [jaStep] at h
    split at h
    · simp only [jaCk1, Bool.and_eq_true] at hc
      have hd := jaD_ok hc.1
      have ht : (pc : Int) + off = (jaPc (jaAt f ps a0) : Int) := of_decide_eq_true hc.2
      exact lv_goto hx hb hd ht (h (hat a0) hvl hvs h21 H locs lsA hlh hhp hS)
    · exact hX _ _ _ _ h ⟨n0, hn0⟩ hvl hvs h21 H locs lsA hlh hhp hS
  | ifCond cd off =>
    simp only [jaCk1, Bool.and_eq_true] at hc
    have hd := jaD_ok hc.1.1
    have hn : jaPc is = pc + 3 := Nat.eq_of_beq_eq_true hc.1.2
    have ht : (pc : Int) + off = (jaPc (jaAt f ps a0) : Int) := of_decide_eq_true hc.2
    obtain ⟨v, st', rfl, h'⟩ := jaPop_elim h
    obtain ⟨x, rfl, h'⟩ := jaLi_elim h'
    cases cd <;> simp only [jaIf] at h'
    · exact lv_if_eq hx hb hd ht (fun q => h'.1 q (hat a0) hvl hvs.2 h21 H locs lsA hlh hhp hS) (fun q => by
        have q := h'.2 q hsuf hvl hvs.2 h21 H locs lsA hlh hhp hS
        rw [hn] at q
        exact q)
    · exact lv_if_ne hx hb hd ht (fun q => h'.1 q (hat a0) hvl hvs.2 h21 H locs lsA hlh hhp hS) (fun q => by
        have q := h'.2 q hsuf hvl hvs.2 h21 H locs lsA hlh hhp hS
        rw [hn] at q
        exact q)
    · exact lv_if_lt hx hb hd ht (fun q => h'.1 q (hat a0) hvl hvs.2 h21 H locs lsA hlh hhp hS) (fun q => by
        have q := h'.2 q hsuf hvl hvs.2 h21 H locs lsA hlh hhp hS
        rw [hn] at q
        exact q)
    · exact lv_if_ge hx hb hd ht (fun q => h'.1 q (hat a0) hvl hvs.2 h21 H locs lsA hlh hhp hS) (fun q => by
        have q := h'.2 q hsuf hvl hvs.2 h21 H locs lsA hlh hhp hS
        rw [hn] at q
        exact q)
    · exact lv_if_gt hx hb hd ht (fun q => h'.1 q (hat a0) hvl hvs.2 h21 H locs lsA hlh hhp hS) (fun q => by
        have q := h'.2 q hsuf hvl hvs.2 h21 H locs lsA hlh hhp hS
        rw [hn] at q
        exact q)
    · exact lv_if_le hx hb hd ht (fun q => h'.1 q (hat a0) hvl hvs.2 h21 H locs lsA hlh hhp hS) (fun q => by
        have q := h'.2 q hsuf hvl hvs.2 h21 H locs lsA hlh hhp hS
        rw [hn] at q
        exact q)
  | if_icmp cd off =>
    simp only [jaCk1, Bool.and_eq_true] at hc
    have hd := jaD_ok hc.1.1
    have hn : jaPc is = pc + 3 := Nat.eq_of_beq_eq_true hc.1.2
    have ht : (pc : Int) + off = (jaPc (jaAt f ps a0) : Int) := of_decide_eq_true hc.2
    obtain ⟨v, st', rfl, h'⟩ := jaPop_elim h
    obtain ⟨y, rfl, h'⟩ := jaLi_elim h'
    obtain ⟨v, st'', rfl, h'⟩ := jaPop_elim h'
    obtain ⟨x, rfl, h'⟩ := jaLi_elim h'
    cases cd <;> simp only [jaIf] at h'
    · exact lv_icmp_eq hx hb hd ht (fun q => h'.1 q (hat a0) hvl hvs.2.2 h21 H locs lsA hlh hhp hS) (fun q => by
        have q := h'.2 q hsuf hvl hvs.2.2 h21 H locs lsA hlh hhp hS
        rw [hn] at q
        exact q)
    · exact lv_icmp_ne hx hb hd ht (fun q => h'.1 q (hat a0) hvl hvs.2.2 h21 H locs lsA hlh hhp hS) (fun q => by
        have q := h'.2 q hsuf hvl hvs.2.2 h21 H locs lsA hlh hhp hS
        rw [hn] at q
        exact q)
    · exact lv_icmp_lt hx hb hd ht (fun q => h'.1 q (hat a0) hvl hvs.2.2 h21 H locs lsA hlh hhp hS) (fun q => by
        have q := h'.2 q hsuf hvl hvs.2.2 h21 H locs lsA hlh hhp hS
        rw [hn] at q
        exact q)
    · exact lv_icmp_ge hx hb hd ht (fun q => h'.1 q (hat a0) hvl hvs.2.2 h21 H locs lsA hlh hhp hS) (fun q => by
        have q := h'.2 q hsuf hvl hvs.2.2 h21 H locs lsA hlh hhp hS
        rw [hn] at q
        exact q)
    · exact lv_icmp_gt hx hb hd ht (fun q => h'.1 q (hat a0) hvl hvs.2.2 h21 H locs lsA hlh hhp hS) (fun q => by
        have q := h'.2 q hsuf hvl hvs.2.2 h21 H locs lsA hlh hhp hS
        rw [hn] at q
        exact q)
    · exact lv_icmp_le hx hb hd ht (fun q => h'.1 q (hat a0) hvl hvs.2.2 h21 H locs lsA hlh hhp hS) (fun q => by
        have q := h'.2 q hsuf hvl hvs.2.2 h21 H locs lsA hlh hhp hS
        rw [hn] at q
        exact q)
  | tableswitch d lo hi os => sorry
  | lookupswitch d qs => sorry
  | getfield idx => sorry
  | putfield idx => sorry
  | getstatic idx => sorry
  | arraylength => sorry
  | iaload => sorry
  | baload => sorry
  | laload => sorry
  | aaload => sorry
  | iastore => sorry
  | bastore => sorry
  | lastore => sorry
  | invokevirtual idx => sorry
  | invokestatic idx => sorry
  | ireturn => sorry
  | lreturn => sorry
  | return_ => sorry
  | _ => exact hX _ _ _ _ h ⟨n0, hn0⟩ hvl hvs h21 H locs lsA hlh hhp hS
end
