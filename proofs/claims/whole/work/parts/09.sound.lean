/-! the pure machine tells what the machine does -/
theorem jaBne {a b : Nat} (h : (!Nat.beq a b) = true) : a ≠ b := by
  intro e
  subst e
  rw [show Nat.beq a a = true from Nat.beq_refl a] at h
  cases h
theorem jaB2_elim {f : Int32 → Int32 → Int32} {K : List jaV → Prop} {st : List jaV} (h : jaB2 f K st) : ∃ x y st', st = .inl y :: .inl x :: st' ∧ K (.inl (f x y) :: st') := by
  unfold jaB2 at h
  split at h
  · exact ⟨_, _, _, rfl, h⟩
  · exact h.elim
theorem jaB1_elim {f : Int32 → Int32} {K : List jaV → Prop} {st : List jaV} (h : jaB1 f K st) : ∃ x st', st = .inl x :: st' ∧ K (.inl (f x) :: st') := by
  unfold jaB1 at h
  split at h
  · exact ⟨_, _, rfl, h⟩
  · exact h.elim
theorem jaL2_elim {f : Int64 → Int64 → Int64} {K : List jaV → Prop} {st : List jaV} (h : jaL2 f K st) : ∃ x y st', st = .inr (.inl y) :: .inr (.inl x) :: st' ∧ K (.inr (.inl (f x y)) :: st') := by
  unfold jaL2 at h
  split at h
  · exact ⟨_, _, _, rfl, h⟩
  · exact h.elim
theorem jaLd_elim {ls : List (Option jaV)} {n : Nat} {K : jaV → Prop} (h : jaLd ls n K) : ∃ v, ls[n]? = some (some v) ∧ K v := by
  unfold jaLd at h
  split at h
  · rename_i v hv
    exact ⟨v, jaN_get hv, h⟩
  · exact h.elim
theorem jaLi_elim {K : Int32 → Prop} {v : jaV} (h : jaLi K v) : ∃ x, v = .inl x ∧ K x := by
  unfold jaLi at h
  split at h
  · exact ⟨_, rfl, h⟩
  · exact h.elim
theorem jaLl_elim {K : Int64 → Prop} {v : jaV} (h : jaLl K v) : ∃ x, v = .inr (.inl x) ∧ K x := by
  unfold jaLl at h
  split at h
  · exact ⟨_, rfl, h⟩
  · exact h.elim
theorem jaLr_elim {K : jaR → Prop} {v : jaV} (h : jaLr K v) : ∃ x, v = .inr (.inr x) ∧ K x := by
  unfold jaLr at h
  split at h
  · exact ⟨_, rfl, h⟩
  · exact h.elim
theorem jaPop_elim {K : jaV → List jaV → Prop} {st : List jaV} (h : jaPop K st) : ∃ v st', st = v :: st' ∧ K v st' := by
  unfold jaPop at h
  split at h
  · exact ⟨_, _, rfl, h⟩
  · exact h.elim
theorem jaBif_elim {b : Bool} {P : Prop} (h : bif b then P else False) : b = true ∧ P := by
  cases b
  · exact h.elim
  · exact ⟨rfl, h⟩
theorem jaBnf_elim {b : Bool} {P : Prop} (h : bif b then False else P) : b = false ∧ P := by
  cases b
  · exact ⟨rfl, h⟩
  · exact h.elim
def jaVal : jaV → Prop
  | .inr (.inr r) => r ∈ jaRefs ∨ r ∈ jaSp
  | _ => True
def jaVs : List jaV → Prop
  | [] => True
  | v :: st => jaVal v ∧ jaVs st
def jaVl (ls : List (Option jaV)) : Prop := ∀ (i : Nat) (v : jaV), ls[i]? = some (some v) → jaVal v
theorem jaVs_mem : ∀ {st : List jaV}, (∀ v ∈ st, jaVal v) → jaVs st
  | [], _ => trivial
  | v :: st, h => ⟨h v List.mem_cons_self, jaVs_mem fun w hw => h w (List.mem_cons_of_mem _ hw)⟩
theorem jaVs_all : ∀ {st : List jaV}, jaVs st → ∀ v ∈ st, jaVal v
  | [], _, _, h => by cases h
  | w :: st, q, v, h => by
    rcases List.mem_cons.mp h with rfl | h
    · exact q.1
    · exact jaVs_all q.2 v h
theorem jaVl_set {ls : List (Option jaV)} {i : Nat} {v : jaV} (h : jaVl ls) (hv : jaVal v) (hi : i < ls.length) : jaVl (jaSet ls i v) := by
  intro j u hj
  rcases jaSet_get ls i v hi j u hj with ⟨-, rfl⟩ | ⟨-, e, -⟩
  · exact hv
  · exact h j u e
theorem jaVl_setL {ls : List (Option jaV)} {i : Nat} {v : Int64} (h : jaVl ls) (hi : i + 1 < ls.length) : jaVl (jaSetL ls i v) := by
  intro j u hj
  rcases jaSetL_get ls i v hi j u hj with ⟨-, rfl⟩ | ⟨-, -, e, -⟩
  · trivial
  · exact h j u e
def jaTB : List Jvm.Cond := lw_tbl.filter goodWord
def jaWds (y : Nat) : List Jvm.Cond := jaYw3 (jaY y) :: jaTB
def jaRm (d : Nat) : Room := { frames := d, cells := 0, slots := 0, locals := 64 * d }
def jaA0 (an : jaR → Nat) : Nat → Prop := fun q => ∃ r, r ∈ jaRefs ∧ q = an r
def jaPre (D : va_G) (dA : Nat → ClassId) (an : jaR → Nat) (sv : Value) (σ : jaT) (U : State) : Prop := jaEnv D dA an sv (jaA0 an) U U.heap ∧ jaHp D dA an (jaA0 an) σ U.heap
def jaQc (D : va_G) (dA : Nat → ClassId) (an : jaR → Nat) (rt : Nat) (S21 : jaS) (Q : jaQ) : Array Value → State → Outcome → State → Prop := match rt with
  | 0 => va_Qv (S := jaT) (fun u => Q none u) (fun u t => va_P D jaCl (jaWs dA an u) t.heap ∧ u 21 = S21) (jaA0 an)
  | 2 => va_Ql (S := jaT) (fun r u => Q (some (.inr (.inl r))) u) (fun u t => va_P D jaCl (jaWs dA an u) t.heap ∧ u 21 = S21) (jaA0 an)
  | _ => va_Qi (S := jaT) (fun r u => Q (some (.inl r)) u) (fun u t => va_P D jaCl (jaWs dA an u) t.heap ∧ u 21 = S21) (jaA0 an)
def jaMet (l : Launch) (D : va_G) (dA : Nat → ClassId) (an : jaR → Nat) (sv : Value) (d y : Nat) (as : List jaV) (σ : jaT) (Q : jaQ) : Prop :=
  Met l (jaY y).1 (jaWds y) (jaRm d) (va_Pc (as.map (jaTr an sv)) (jaPre D dA an sv σ)) (jaQc D dA an (jaRt y) (σ 21) Q) 0 0 (jaA0 an)
theorem jaHp.addr {dA : Nat → ClassId} {an : jaR → Nat} {A : Nat → Prop} {σ τ : jaT} (h : va_D A (jaWs dA an σ)) : va_D A (jaWs dA an τ) := by
  have key : ∀ (i : Nat) (p : Nat × va_E), (jaWs dA an τ)[i]? = some p → ∃ p', (jaWs dA an σ)[i]? = some p' ∧ p'.1 = p.1 := by
    intro i p hp
    simp only [jaWs, List.getElem?_map, Option.map_eq_some_iff] at hp ⊢
    obtain ⟨r, hr, rfl⟩ := hp
    exact ⟨_, ⟨r, hr, rfl⟩, rfl⟩
  refine ⟨fun i j p q hp hq e => ?_, fun i p hp => ?_⟩
  · obtain ⟨p', h1, h2⟩ := key i p hp
    obtain ⟨q', h3, h4⟩ := key j q hq
    exact h.1 i j p' q' h1 h3 (h2.trans (e.trans h4.symm))
  · obtain ⟨p', h1, h2⟩ := key i p hp
    rw [← h2]
    exact h.2 i p' h1
theorem jaRefs_sort {r : jaR} (h : r ∈ jaRefs) : r.1 < 98 ∧ r.1 ≠ 96 ∧ r.2.1 ≠ 21 ∧ (match jaN (99, []) jaOb r.1 with
  | (ci, _ :: _) => (jaN (5, 0, 0, 0, false, false) jaAr r.1).1 = 5 ∧ ci < 12
  | (_, []) => (jaN (5, 0, 0, 0, false, false) jaAr r.1).1 < 5 ∧ (match jaN (5, 0, 0, 0, false, false) jaAr r.1 with
    | (4, _, o', _) => o' = 50 ∨ o' = 20 ∨ o' = 40
    | _ => True)) := by
  have h1 := List.all_eq_true.mp jaRefs_sort0 r h
  simp only [Bool.and_eq_true] at h1
  obtain ⟨⟨⟨h1, h2⟩, h3⟩, h4⟩ := h1
  refine ⟨Nat.le_of_ble_eq_true h1, jaBne h2, jaBne h3, ?_⟩
  revert h4
  rcases jaN (99, []) jaOb r.1 with ⟨ci, _ | ⟨t, ts⟩⟩
  · intro h4
    simp only [Bool.and_eq_true] at h4
    refine ⟨Nat.le_of_ble_eq_true h4.1, ?_⟩
    have h5 := h4.2
    revert h5
    rcases jaN (5, 0, 0, 0, false, false) jaAr r.1 with ⟨t, n, o', x⟩
    intro h5
    split
    · rename_i e
      cases e
      simp at h5
      omega
    · trivial
  · intro h4
    simp only [Bool.and_eq_true] at h4
    exact ⟨Nat.eq_of_beq_eq_true h4.1, Nat.le_of_ble_eq_true h4.2⟩
theorem jaFS9 : Jvm.Cond.fieldLink "java/lang/String" 9 "java/lang/String" "value" "[B" ∈ lw_tbl := List.mem_of_getElem? (i := 2208) (by decide +kernel)
theorem jaFS15 : Jvm.Cond.fieldLink "java/lang/String" 15 "java/lang/String" "coder" "B" ∈ lw_tbl := List.mem_of_getElem? (i := 2207) (by decide +kernel)
theorem jaFS38 : Jvm.Cond.fieldLink "java/lang/String" 38 "java/lang/String" "COMPACT_STRINGS" "Z" ∈ lw_tbl := List.mem_of_getElem? (i := 658) (by decide +kernel)
theorem jaFS1053 : Jvm.Cond.fieldLink "java/lang/String" 1053 "jdk/internal/util/Preconditions" "SIOOBE_FORMATTER" "Ljava/util/function/BiFunction;" ∈ lw_tbl := List.mem_of_getElem? (i := 701) (by decide +kernel)
theorem jaLay_good {C : String} {T : u_T} {N : Nat} {w : Jvm.Cond} (h : w ∈ u_ws C T N) : goodWord w = true := by
  obtain ⟨k, -, rfl⟩ := List.mem_map.mp h
  unfold u_lay
  split <;> rfl
theorem jaCl_at {ci : Nat} (h : ci < 12) : jaCl[ci]? = some (jaClN ci) := by
  match ci, h with
  | 0, _ => rfl
  | 1, _ => rfl
  | 2, _ => rfl
  | 3, _ => rfl
  | 4, _ => rfl
  | 5, _ => rfl
  | 6, _ => rfl
  | 7, _ => rfl
  | 8, _ => rfl
  | 9, _ => rfl
  | 10, _ => rfl
  | 11, _ => rfl
  | n + 12, h => omega
theorem jaVal_ob {r : jaR} (h : r ∈ jaRefs ∨ r ∈ jaSp) {a : Nat} {t : Nat × Nat × Nat} (ht : (jaN (99, []) jaOb r.1).2[a]? = some t) : r ∈ jaRefs := by
  rcases h with h | h
  · exact h
  · simp only [jaSp, List.mem_cons, List.not_mem_nil, or_false] at h
    have key : (jaN (99, []) jaOb r.1).2 = [] := by
      rcases h with rfl | rfl | rfl | rfl | rfl | rfl <;> decide
    rw [key] at ht
    simp at ht
theorem jaCell_ob {dA : Nat → ClassId} {an : jaR → Nat} {σ : jaT} {r : jaR} {a : Nat} {t : Nat × Nat × Nat} (ht : (jaN (99, []) jaOb r.1).2[a]? = some t) : jaCell dA an σ r = .inr ((jaN (99, []) jaOb r.1).1, jaFvs an σ r.1 r.2.1 r.2.2 0 (jaN (99, []) jaOb r.1).2) := by
  unfold jaCell
  revert ht
  rcases jaN (99, []) jaOb r.1 with ⟨ci, _ | ⟨u, us⟩⟩
  · intro ht
    simp at ht
  · intro ht
    rfl
theorem jaCell_ar {dA : Nat → ClassId} {an : jaR → Nat} {σ : jaT} {r : jaR} (h : r ∈ jaRefs) (ht : (jaN (5, 0, 0, 0, false, false) jaAr r.1).1 ≠ 5) : jaCell dA an σ r = jaArE dA an σ r.1 r.2.1 r.2.2 (jaN (5, 0, 0, 0, false, false) jaAr r.1) := by
  have h4 := (jaRefs_sort h).2.2.2
  unfold jaCell
  revert h4
  rcases jaN (99, []) jaOb r.1 with ⟨ci, _ | ⟨u, us⟩⟩
  · intro _
    rfl
  · intro h4
    exact absurd h4.1 ht
theorem jaVal_ar {r : jaR} (h : r ∈ jaRefs ∨ r ∈ jaSp) (h96 : r.1 ≠ 96) (ht : (jaN (5, 0, 0, 0, false, false) jaAr r.1).1 ≠ 5) (ht6 : (jaN (5, 0, 0, 0, false, false) jaAr r.1).1 ≠ 6) : r ∈ jaRefs := by
  rcases h with h | h
  · exact h
  · simp only [jaSp, List.mem_cons, List.not_mem_nil, or_false] at h
    rcases h with rfl | rfl | rfl | rfl | rfl | rfl
    · exact absurd rfl h96
    · exact absurd (by decide) ht
    · exact absurd (by decide) ht6
    · exact absurd (by decide) ht
    · exact absurd (by decide) ht6
    · exact absurd (by decide) ht
theorem jaAr_tagB : (jaAr.all fun q => Nat.ble q.1 6) = true := by decide +kernel
theorem jaN_mem {α : Type} {d : α} : ∀ (l : List α) (n : Nat), jaN d l n = d ∨ jaN d l n ∈ l
  | [], _ => Or.inl rfl
  | a :: l, 0 => Or.inr List.mem_cons_self
  | a :: l, n + 1 => (jaN_mem l n).elim Or.inl fun h => Or.inr (List.mem_cons_of_mem _ h)
theorem jaAr_tag (o : Nat) : (jaN (5, 0, 0, 0, false, false) jaAr o).1 ≤ 6 := by
  rcases jaN_mem (d := (5, 0, 0, 0, false, false)) jaAr o with h | h
  · rw [h]; decide
  · exact Nat.le_of_ble_eq_true (List.all_eq_true.mp jaAr_tagB _ h)
theorem jaOb_desc {o a : Nat} {t : Nat × Nat × Nat} (ht : (jaN (99, []) jaOb o).2[a]? = some t) : (t.1 = 0 → ((jaClN (jaN (99, []) jaOb o).1).2.1 a).2.2.1 = "I") ∧ (t.1 = 1 → ((jaClN (jaN (99, []) jaOb o).1).2.1 a).2.2.1 = "J") ∧ (t.1 = 2 → ((jaClN (jaN (99, []) jaOb o).1).2.1 a).2.2.1 = "Z") := by
  rcases jaN_mem (d := (99, [])) jaOb o with h | h
  · rw [h] at ht
    simp at ht
  · have h1 := List.all_eq_true.mp jaObT0 _ h
    have h2 := List.all_eq_true.mp h1 (t, a) (by
      rw [List.mem_zipIdx_iff_getElem?]
      exact ht)
    simp only [Bool.and_eq_true, beq_iff_eq] at h2
    obtain ⟨⟨h3, h4⟩, h5⟩ := h2
    refine ⟨fun e => ?_, fun e => ?_, fun e => ?_⟩
    · rw [e] at h3; exact of_decide_eq_true (h3.trans rfl)
    · rw [e] at h4; exact of_decide_eq_true (h4.trans rfl)
    · rw [e] at h5; exact of_decide_eq_true (h5.trans rfl)
theorem jaInt_rt {v : Int} (h1 : -2147483648 ≤ v) (h2 : v < 2147483648) {x : Int32} : x = Int32.ofInt v ↔ x.toInt = v := by
  constructor
  · intro h
    rw [h]
    exact Int32.toInt_ofInt_of_le (by omega) (by omega)
  · intro h
    rw [← h, Int32.ofInt_toInt]
theorem jaSw_at {x : Int32} {J : Nat → Prop} : ∀ (l : List Nat) (v : Int) (k t : Nat), jaSw x J v l → l[k]? = some t → x = Int32.ofInt (v + k) → J t
  | [], _, _, _, _, h, _ => by simp at h
  | u :: l, v, 0, t, q, h, e => by
    simp at h
    subst h
    exact q.1 (by simpa using e)
  | u :: l, v, k + 1, t, q, h, e => by
    refine jaSw_at l (v + 1) k t q.2 (by simpa using h) ?_
    rw [e]
    congr 1
    push_cast
    omega
theorem jaTgs_at {f : List jaI} {ps : List Nat} {pc : Nat} : ∀ (os : List Int) (l : List Nat) (k : Nat) (off : Int), jaTgs f ps pc os l = true → os[k]? = some off → ∃ t, l[k]? = some t ∧ jaTg f ps pc off t = true
  | [], _, _, _, _, h => by simp at h
  | o :: os, [], _, _, q, _ => by simp [jaTgs] at q
  | o :: os, u :: l, 0, off, q, h => by
    simp at h
    subst h
    simp only [jaTgs, Bool.and_eq_true] at q
    exact ⟨u, rfl, q.1⟩
  | o :: os, u :: l, k + 1, off, q, h => by
    simp only [jaTgs, Bool.and_eq_true] at q
    obtain ⟨t, h1, h2⟩ := jaTgs_at os l k off q.2 (by simpa using h)
    exact ⟨t, by simpa using h1, h2⟩
theorem jaLk_at {x : Int32} {J : Nat → Prop} {f : List jaI} {ps : List Nat} {pc a : Nat} {d : Int} (hd : jaTg f ps pc d a = true) : ∀ (qs : List (Int × Int)) (l : List Nat), jaTgs f ps pc (qs.map (·.2)) l = true → (∀ q ∈ qs, -2147483648 ≤ q.1 ∧ q.1 < 2147483648) → (jaNo x qs → J a) → jaLk x J qs l → ∃ t, J t ∧ jaTg f ps pc (Op.lookupswitch.offset qs d x.toInt) t = true
  | [], _, _, _, h, _ => ⟨a, h trivial, hd⟩
  | q :: qs, [], h, _, _, _ => by simp [jaTgs] at h
  | (k, o) :: qs, t :: l, h, hr, hn, hl => by
    simp only [List.map_cons, jaTgs, Bool.and_eq_true] at h
    have hk := hr (k, o) List.mem_cons_self
    rw [Op.lookupswitch.offset_cons]
    by_cases e : k = x.toInt
    · rw [if_pos e]
      exact ⟨t, hl.1 ((jaInt_rt hk.1 hk.2).mpr e.symm), h.1⟩
    · rw [if_neg e]
      refine jaLk_at hd qs l h.2 (fun q hq => hr q (List.mem_cons_of_mem _ hq)) (fun z => hn ⟨fun w => e ((jaInt_rt hk.1 hk.2).mp w).symm, z⟩) hl.2
theorem jaSp_100 {k c : Nat} (h : ((100, k, c) : jaR) ∈ jaRefs ∨ ((100, k, c) : jaR) ∈ jaSp) : k = 23 ∧ c = 0 := by
  rcases h with h | h
  · exact absurd (jaRefs_sort h).1 (by show ¬ 100 < 98; omega)
  · simpa [jaSp] using h
theorem jaSp_102 {k c : Nat} (h : ((102, k, c) : jaR) ∈ jaRefs ∨ ((102, k, c) : jaR) ∈ jaSp) : k = 24 ∧ c = 0 := by
  rcases h with h | h
  · exact absurd (jaRefs_sort h).1 (by show ¬ 102 < 98; omega)
  · simpa [jaSp] using h
theorem jaSp_101 {k c : Nat} (h : ((101, k, c) : jaR) ∈ jaRefs ∨ ((101, k, c) : jaR) ∈ jaSp) : k = 23 ∧ c = 0 := by
  rcases h with h | h
  · exact absurd (jaRefs_sort h).1 (by show ¬ 101 < 98; omega)
  · simpa [jaSp] using h
theorem jaSp_103 {k c : Nat} (h : ((103, k, c) : jaR) ∈ jaRefs ∨ ((103, k, c) : jaR) ∈ jaSp) : k = 24 ∧ c = 0 := by
  rcases h with h | h
  · exact absurd (jaRefs_sort h).1 (by show ¬ 103 < 98; omega)
  · simpa [jaSp] using h
theorem jaSp_96 {k c : Nat} (h : ((96, k, c) : jaR) ∈ jaRefs ∨ ((96, k, c) : jaR) ∈ jaSp) : k = 21 ∧ c = 0 := by
  rcases h with h | h
  · exact absurd rfl (jaRefs_sort h).2.1
  · simpa [jaSp] using h
theorem jaVal_6 {r : jaR} (h : r ∈ jaRefs ∨ r ∈ jaSp) (ht : (jaN (5, 0, 0, 0, false, false) jaAr r.1).1 = 6) : r = (101, 23, 0) ∨ r = (103, 24, 0) := by
  rcases h with h | h
  · exfalso
    have h4 := (jaRefs_sort h).2.2.2
    revert h4
    rcases jaN (99, []) jaOb r.1 with ⟨ci, _ | ⟨u, us⟩⟩
    · intro h4
      have := h4.1
      omega
    · intro h4
      have := h4.1
      omega
  · simp only [jaSp, List.mem_cons, List.not_mem_nil, or_false] at h
    rcases h with rfl | rfl | rfl | rfl | rfl | rfl
    · exact absurd ht (by decide)
    · exact absurd ht (by decide)
    · exact Or.inl rfl
    · exact absurd ht (by decide)
    · exact Or.inr rfl
    · exact absurd ht (by decide)
theorem jaTr_ref {an : jaR → Nat} {sv : Value} {r : jaR} (h : r.1 ≠ 104) : jaTr an sv (.inr (.inr r)) = .ref (an r) := by
  have : Nat.beq r.1 104 = false := by
    cases hb : Nat.beq r.1 104
    · rfl
    · exact absurd (Nat.eq_of_beq_eq_true hb) h
  simp only [jaTr, jaAd, this, cond_false]
theorem jaU_21 {σ : jaT} {k : Nat} {S : jaS} (h : k ≠ 21) : jaU σ k S 21 = σ 21 := by
  unfold jaU
  rw [if_neg (Ne.symm h)]
theorem jaNarB {v : Int32} (h : v = 0 ∨ v = 1) : narrow .boolean (.int v) = .int v ∧ fits .boolean (.int v) = true ∧ vp_nar .boolean v = v := by
  rcases h with rfl | rfl <;> decide
theorem jaPre_blind {D : va_G} {dA : Nat → ClassId} {an : jaR → Nat} {sv : Value} {σ : jaT} {as : List Value} : FrameBlind (va_Pc as (jaPre D dA an sv σ)) := by
  intro a U g mk q
  exact ⟨q.1, jaEnv.same (u := U) (U := U.calling g mk a) rfl q.2.1, q.2.2⟩
theorem jaTB_in {w : Jvm.Cond} (h : w ∈ lw_tbl) (hg : goodWord w = true) : w ∈ jaTB := List.mem_filter.mpr ⟨h, hg⟩
theorem jaWds_good {y : Nat} (hy : y < 303) : GoodIn jaTB (jaWds y) := by
  intro w hw
  have hm : jaY y ∈ jaYt := by
    rcases jaN_mem (d := (⟨"", "", ""⟩, ⟨#[]⟩, 0, none, false, 0)) jaYt y with h | h
    · exfalso
      have hk := (jaG_all y hy).2.2
      have : ∀ z, z < 303 → (jaY z).1.cls ≠ "" := by decide +kernel
      exact this y hy (by rw [jaY, h])
    · exact h
  rcases List.mem_cons.mp hw with rfl | hw
  · exact ⟨jaTB_in (jaY_ok3 _ hm) rfl, good_of_word rfl⟩
  · exact ⟨hw, good_of_word (List.mem_filter.mp hw).2⟩
theorem jaY_mem {y : Nat} (hy : y < 303) : jaY y ∈ jaYt := by
  rcases jaN_mem (d := (⟨"", "", ""⟩, ⟨#[]⟩, 0, none, false, 0)) jaYt y with h | h
  · exfalso
    have : ∀ z, z < 303 → (jaY z).1.cls ≠ "" := by decide +kernel
    exact this y hy (by rw [jaY, h])
  · exact h
theorem jaY_mh : ∀ y, y < 303 → (jaY y).1.cls ≠ "java/lang/invoke/MethodHandle" ∧ (jaY y).1.cls ≠ "java/lang/invoke/VarHandle" := by decide +kernel
theorem jaArr_get {dA : Nat → ClassId} {an : jaR → Nat} {σ : jaT} {r : jaR} {t : Nat} {x : Nat × Nat × Nat × Bool × Bool} (h : r ∈ jaRefs) (ht : jaN (5, 0, 0, 0, false, false) jaAr r.1 = (t, x)) (h5 : t ≠ 5) : ∃ q0 : Nat, jaRefs[q0]? = some r ∧ (jaWs dA an σ)[q0]? = some (an r, jaArE dA an σ r.1 r.2.1 r.2.2 (t, x)) := by
  obtain ⟨q0, h1, h2⟩ := jaWs_get (dA := dA) (an := an) (σ := σ) h
  refine ⟨q0, h1, ?_⟩
  rw [h2, jaCell_ar h (by rw [ht]; exact h5), ht]
theorem jaQc_v {D : va_G} {dA : Nat → ClassId} {an : jaR → Nat} {S21 : jaS} {Q : jaQ} {y : Nat} (h : jaRk y 0 = true) : jaQc D dA an (jaRt y) S21 Q = va_Qv (S := jaT) (fun u => Q none u) (fun u t => va_P D jaCl (jaWs dA an u) t.heap ∧ u 21 = S21) (jaA0 an) := by
  have e : jaRt y = 0 := by
    unfold jaRk at h
    unfold jaRt
    split at h <;> first | rfl | (rename_i hz; rw [hz]; done) | (rename_i hz _; rw [hz]; done) | (exfalso; simp_all; done) | simp_all
  rw [e]
  rfl
theorem jaQc_i {D : va_G} {dA : Nat → ClassId} {an : jaR → Nat} {S21 : jaS} {Q : jaQ} {y : Nat} (h : jaRk y 1 = true) : jaQc D dA an (jaRt y) S21 Q = va_Qi (S := jaT) (fun r u => Q (some (.inl r)) u) (fun u t => va_P D jaCl (jaWs dA an u) t.heap ∧ u 21 = S21) (jaA0 an) := by
  have e : jaRt y = 1 ∨ jaRt y = 3 ∨ jaRt y = 4 ∨ jaRt y = 5 := by
    unfold jaRk at h
    unfold jaRt
    split at h <;> simp_all
  rcases e with e | e | e | e <;> rw [e] <;> rfl
theorem jaQc_l {D : va_G} {dA : Nat → ClassId} {an : jaR → Nat} {S21 : jaS} {Q : jaQ} {y : Nat} (h : jaRk y 2 = true) : jaQc D dA an (jaRt y) S21 Q = va_Ql (S := jaT) (fun r u => Q (some (.inr (.inl r))) u) (fun u t => va_P D jaCl (jaWs dA an u) t.heap ∧ u 21 = S21) (jaA0 an) := by
  have e : jaRt y = 2 := by
    unfold jaRk at h
    unfold jaRt
    split at h <;> simp_all
  rw [e]
  rfl
theorem jaCats {an : jaR → Nat} {sv : Value} (hs : sv = .null ∨ ∃ a, sv = .ref a) : ∀ (st : List jaV), ((st.map (jaTr an sv)).map fun v => v.category).sum ≤ jaCat st
  | [] => Nat.le_refl _
  | .inl x :: st => by
    have h1 := jaCats (an := an) hs st
    have h2 : (jaTr an sv (.inl x)).category ≤ 1 := by
      rw [jaTr_cat hs]
      exact Nat.le_refl _
    simp only [List.map_cons, List.sum_cons, jaCat] at h1 ⊢
    omega
  | .inr (.inl x) :: st => by
    have h1 := jaCats (an := an) hs st
    have h2 : (jaTr an sv (.inr (.inl x))).category ≤ 2 := by
      rw [jaTr_cat hs]
      exact Nat.le_refl _
    simp only [List.map_cons, List.sum_cons, jaCat] at h1 ⊢
    omega
  | .inr (.inr x) :: st => by
    have h1 := jaCats (an := an) hs st
    have h2 : (jaTr an sv (.inr (.inr x))).category ≤ 1 := by
      rw [jaTr_cat hs]
      exact Nat.le_refl _
    simp only [List.map_cons, List.sum_cons, jaCat] at h1 ⊢
    omega
theorem jaPre_at {D : va_G} {dA : Nat → ClassId} {an : jaR → Nat} {sv : Value} {A : Nat → Prop} {σ : jaT} {s U : State} {H : Heap} {locs : List Loc} (hE : jaEnv D dA an sv A s s.heap) (hA0 : ∀ q, jaA0 an q → A q) (hhp : jaHp D dA an A σ H) (hS : va_S A s.heap H locs) (hU : U.heap = H) (hW : s.WarmedH U.vm) : jaPre D dA an sv σ U := by
  refine ⟨?_, ?_⟩
  · rw [hU]
    exact jaEnv.alike (u := s) hW ((hE.kept hS.2.1).narrow hA0)
  · rw [hU]
    refine ⟨hhp.1, hhp.2.weaken (fun k q hk _ => ?_)⟩
    simp only [jaWs, List.getElem?_map, Option.map_eq_some_iff] at hk
    obtain ⟨r, hr, rfl⟩ := hk
    exact ⟨r, List.mem_of_getElem? hr, rfl⟩
theorem jaBy_at : ∀ i j, i < 2 → j < ([9, 158] : List Nat).getD i 0 → (jaBy.getD i []).getD j 0 = Int32.ofNat (jaN 0 (jaN [] jaStr i) j) := by
  intro i j hi hj
  match i, hi with
  | 0, _ => exact (by decide +kernel : ∀ j, j < 9 → (jaBy.getD 0 []).getD j 0 = Int32.ofNat (jaN 0 (jaN [] jaStr 0) j)) j hj
  | 1, _ => exact (by decide +kernel : ∀ j, j < 158 → (jaBy.getD 1 []).getD j 0 = Int32.ofNat (jaN 0 (jaN [] jaStr 1) j)) j hj
  | n + 2, h => omega
section
variable {p : Program} {l : Launch} {e : Env} {R : Room} {s : State} {m : MethodId} {args : Array Value} {below : List Frame} {meth : Method} {c : Code} {cells slots : Nat} {Qm : State → Prop}
variable {D : va_G} {dA : Nat → ClassId} {an : jaR → Nat} {sv : Value} {A : Nat → Prop} {cc : ByteArray} {nL rt own : Nat} {Ar : List jaA} {Γ : jaG} {f : List jaI} {ps : List Nat} {Q : jaQ} {X : jaX} {S21 : jaS} {d : Nat}
def jaSim (p : Program) (l : Launch) (e : Env) (R : Room) (s : State) (m : MethodId) (args : Array Value) (below : List Frame) (meth : Method) (c : Code) (D : va_G) (dA : Nat → ClassId) (an : jaR → Nat) (sv : Value) (A : Nat → Prop) (nL : Nat) (f : List jaI) (S21 : jaS) (cells slots : Nat) (Qm : State → Prop) : jaX := fun is ls st σ =>
  (∃ n : Nat, is = f.drop n) → jaVl ls → jaVs st → σ 21 = S21 → ∀ (H : Heap) (locs : List Loc) (lsA : Array Slot), jaLh an sv lsA nL ls → jaHp D dA an A σ H → va_S A s.heap H locs → W p l e R s m args below meth c H locs cells slots Qm (F0 m (jaPc is) lsA (st.map (jaTr an sv)))
def jaRets (p : Program) (l : Launch) (e : Env) (R : Room) (s : State) (m : MethodId) (args : Array Value) (below : List Frame) (meth : Method) (c : Code) (D : va_G) (dA : Nat → ClassId) (an : jaR → Nat) (sv : Value) (A : Nat → Prop) (cc : ByteArray) (rt : Nat) (S21 : jaS) (cells slots : Nat) (Q : jaQ) (Qm : State → Prop) : Prop :=
  ∀ (r : Option jaV) (σ : jaT) (H : Heap) (locs : List Loc) (pc : Nat) (lsA : Array Slot), Q r σ → σ 21 = S21 → jaHp D dA an A σ H → va_S A s.heap H locs →
    ((rt = 0 ∧ r = none ∧ decode cc pc = .ok (.return_, 1)) ∨ (rt = 2 ∧ (∃ x, r = some (.inr (.inl x))) ∧ decode cc pc = .ok (.lreturn, 1)) ∨ ((∃ x, r = some (.inl x) ∧ (rt = 1 ∨ (rt = 3 ∧ (x = 0 ∨ x = 1)) ∨ (rt = 4 ∧ (x.toUInt32 % 65536).toInt32 = x) ∨ (rt = 5 ∧ x.toInt8.toInt32 = x))) ∧ decode cc pc = .ok (.ireturn, 1))) →
    W p l e R s m args below meth c H locs cells slots Qm (F0 m pc lsA (r.toList.map (jaTr an sv)))
set_option maxHeartbeats 40000000 in
set_option maxRecDepth 10000 in
theorem jaSim_step (hx : p.tables.exec = Jvm.exec) (hb : c.code = cc) (hml : c.maxLocals = nL) (hown : s.vm.findClass (jaN "" jaOn own) = some m.cls) (hts : ∀ w ∈ lw_tbl, goodWord w = true → w.before args s = true) (hE : jaEnv D dA an sv A s s.heap) (hs : sv = .null ∨ ∃ a, sv = .ref a) (hf : jaCk own cc nL rt f ps f = true)
    (hAr : ∀ o, o ≠ 96 → jaN (5, 0, 0, 0, false, false) Ar o = jaN (5, 0, 0, 0, false, false) jaAr o) (hA96 : (jaN (5, 0, 0, 0, false, false) Ar 96).1 = 5 ∨ ∃ L r, jaN (5, 0, 0, 0, false, false) Ar 96 = (7, L, r) ∧ va_X (an (96, 21, 0)) L (fun j => S21.1 96 0 j) s s.heap ∧ ¬ A (an (96, 21, 0)))
    (hΓ : ∀ y as σ Q', y < 303 → jaVs as → Γ y as σ Q' → jaMet l D dA an sv d y as σ Q') (hA0 : ∀ q, jaA0 an q → A q) (hRf : d + 1 ≤ R.frames) (hRl : 64 * (d + 1) ≤ R.locals) (hcl : cells ≤ R.cells) (hsl : slots ≤ R.slots)
    (hret : jaRets p l e R s m args below meth c D dA an sv A cc rt S21 cells slots Q Qm)
    (hX : ∀ is ls st σ, X is ls st σ → jaSim p l e R s m args below meth c D dA an sv A nL f S21 cells slots Qm is ls st σ) :
    ∀ is ls st σ, jaStep Ar Γ Q X (jaSim p l e R s m args below meth c D dA an sv A nL f S21 cells slots Qm) (fun a => jaSim p l e R s m args below meth c D dA an sv A nL f S21 cells slots Qm (jaAt f ps a)) is ls st σ → jaSim p l e R s m args below meth c D dA an sv A nL f S21 cells slots Qm is ls st σ := by
  rintro is ls st σ h ⟨n0, hn0⟩ hvl hvs h21 H locs lsA hlh hhp hS
  have hck : jaCk own cc nL rt f ps is = true := by rw [hn0]; exact jaCk_drop n0 f hf
  cases is with
  | nil => exact h.elim
  | cons q is =>
  obtain ⟨pc, i, a0, lx⟩ := q
  have hsuf : ∃ n : Nat, is = f.drop n := ⟨n0 + 1, by rw [← List.drop_drop, ← hn0]; rfl⟩
  rw [jaCk, Bool.and_eq_true] at hck
  obtain ⟨hc, -⟩ := hck
  have hlen : ls.length = nL := hlh.1
  show W p l e R s m args below meth c H locs cells slots Qm (F0 m pc lsA (st.map (jaTr an sv)))
  have hat : ∀ a, ∃ n : Nat, jaAt f ps a = f.drop n := fun a => ⟨_, rfl⟩
  cases i with
  | nop =>
    simp only [jaCk1, Bool.and_eq_true] at hc
    have hn : jaPc is = pc := Nat.eq_of_beq_eq_true hc.2
    have e1 : jaN 0 ps a0 + is.length = f.length := Nat.eq_of_beq_eq_true hc.1
    obtain ⟨n1, hn1⟩ := hsuf
    have e2 : jaAt f ps a0 = is := by
      unfold jaAt
      rw [hn1]
      have e3 : is.length = f.length - n1 := by rw [hn1, List.length_drop]
      rcases Nat.lt_or_ge n1 f.length with q | q
      · rw [show jaN 0 ps a0 = n1 by omega]
      · rw [List.drop_eq_nil_of_le q, List.drop_eq_nil_of_le (by omega)]
    have q := h (hat a0) hvl hvs h21 H locs lsA hlh hhp hS
    rw [e2, hn] at q
    exact q
  | aload_n n =>
    simp only [jaCk1, Bool.and_eq_true] at hc
    have hd := jaD_ok hc.1
    have hn : jaPc is = pc + 1 := Nat.eq_of_beq_eq_true hc.2
    obtain ⟨v, hv, h'⟩ := jaLd_elim h
    obtain ⟨r, rfl, h'⟩ := jaLr_elim h'
    obtain ⟨h4, h'⟩ := jaBnf_elim h'
    have q := h' hsuf hvl ⟨hvl _ _ hv, hvs⟩ h21 H locs lsA hlh hhp hS
    rw [hn] at q
    have e1 : jaTr an sv (.inr (.inr r)) = .ref (an r) := by simp only [jaTr, jaAd, h4, cond_false]
    have hl := hlh.2.2.2 _ _ hv
    rw [e1] at hl
    have q : W p l e R s m args below meth c H locs cells slots Qm (F0 m (pc + 1) lsA (jaTr an sv (.inr (.inr r)) :: st.map (jaTr an sv))) := q
    rw [e1] at q
    exact lv_aload_n hx hb hd rfl hl q
  | aload n =>
    simp only [jaCk1, Bool.and_eq_true] at hc
    have hd := jaD_ok hc.1
    have hn : jaPc is = pc + 2 := Nat.eq_of_beq_eq_true hc.2
    obtain ⟨v, hv, h'⟩ := jaLd_elim h
    obtain ⟨r, rfl, h'⟩ := jaLr_elim h'
    obtain ⟨h4, h'⟩ := jaBnf_elim h'
    have q := h' hsuf hvl ⟨hvl _ _ hv, hvs⟩ h21 H locs lsA hlh hhp hS
    rw [hn] at q
    have e1 : jaTr an sv (.inr (.inr r)) = .ref (an r) := by simp only [jaTr, jaAd, h4, cond_false]
    have hl := hlh.2.2.2 _ _ hv
    rw [e1] at hl
    have q : W p l e R s m args below meth c H locs cells slots Qm (F0 m (pc + 2) lsA (jaTr an sv (.inr (.inr r)) :: st.map (jaTr an sv))) := q
    rw [e1] at q
    exact lv_aload hx hb hd hl q
  | iload_n n =>
    simp only [jaCk1, Bool.and_eq_true] at hc
    have hd := jaD_ok hc.1
    have hn : jaPc is = pc + 1 := Nat.eq_of_beq_eq_true hc.2
    obtain ⟨v, hv, h'⟩ := jaLd_elim h
    obtain ⟨r, rfl, h'⟩ := jaLi_elim h'
    have q := h' hsuf hvl ⟨trivial, hvs⟩ h21 H locs lsA hlh hhp hS
    rw [hn] at q
    exact lv_iload_n hx hb hd rfl (hlh.2.2.2 _ _ hv) q
  | iload n =>
    simp only [jaCk1, Bool.and_eq_true] at hc
    have hd := jaD_ok hc.1
    have hn : jaPc is = pc + 2 := Nat.eq_of_beq_eq_true hc.2
    obtain ⟨v, hv, h'⟩ := jaLd_elim h
    obtain ⟨r, rfl, h'⟩ := jaLi_elim h'
    have q := h' hsuf hvl ⟨trivial, hvs⟩ h21 H locs lsA hlh hhp hS
    rw [hn] at q
    exact lv_iload hx hb hd (hlh.2.2.2 _ _ hv) q
  | lload_n n =>
    simp only [jaCk1, Bool.and_eq_true] at hc
    have hd := jaD_ok hc.1
    have hn : jaPc is = pc + 1 := Nat.eq_of_beq_eq_true hc.2
    obtain ⟨v, hv, h'⟩ := jaLd_elim h
    obtain ⟨r, rfl, h'⟩ := jaLl_elim h'
    have q := h' hsuf hvl ⟨trivial, hvs⟩ h21 H locs lsA hlh hhp hS
    rw [hn] at q
    exact lv_lload_n hx hb hd rfl (hlh.2.2.2 _ _ hv) q
  | lload n =>
    simp only [jaCk1, Bool.and_eq_true] at hc
    have hd := jaD_ok hc.1
    have hn : jaPc is = pc + 2 := Nat.eq_of_beq_eq_true hc.2
    obtain ⟨v, hv, h'⟩ := jaLd_elim h
    obtain ⟨r, rfl, h'⟩ := jaLl_elim h'
    have q := h' hsuf hvl ⟨trivial, hvs⟩ h21 H locs lsA hlh hhp hS
    rw [hn] at q
    exact lv_lload hx hb hd (hlh.2.2.2 _ _ hv) q
  | istore_n n =>
    simp only [jaCk1, Bool.and_eq_true] at hc
    have hd := jaD_ok hc.1.1
    have hn : jaPc is = pc + 1 := Nat.eq_of_beq_eq_true hc.1.2
    have hi : (n : Nat) < nL := Nat.le_of_ble_eq_true hc.2
    dsimp only [jaStep] at h
    obtain ⟨v, st', rfl, h'⟩ := jaPop_elim h
    obtain ⟨r, rfl, h'⟩ := jaLi_elim h'
    refine lv_istore_n hx hb hd rfl hlh.has hi rfl (fun ls' hl' => ?_)
    have hl2 := jaLh.set (v := .inl r) hs hlen hi hl'
    have q := h' hsuf (jaVl_set hvl trivial (by omega)) hvs.2 h21 H locs ls' hl2 hhp hS
    rw [hn] at q
    exact q
  | istore n =>
    simp only [jaCk1, Bool.and_eq_true] at hc
    have hd := jaD_ok hc.1.1
    have hn : jaPc is = pc + 2 := Nat.eq_of_beq_eq_true hc.1.2
    have hi : (n : Nat) < nL := Nat.le_of_ble_eq_true hc.2
    dsimp only [jaStep] at h
    obtain ⟨v, st', rfl, h'⟩ := jaPop_elim h
    obtain ⟨r, rfl, h'⟩ := jaLi_elim h'
    refine lv_istore hx hb hd hlh.has hi rfl (fun ls' hl' => ?_)
    have hl2 := jaLh.set (v := .inl r) hs hlen hi hl'
    have q := h' hsuf (jaVl_set hvl trivial (by omega)) hvs.2 h21 H locs ls' hl2 hhp hS
    rw [hn] at q
    exact q
  | astore_n n =>
    simp only [jaCk1, Bool.and_eq_true] at hc
    have hd := jaD_ok hc.1.1
    have hn : jaPc is = pc + 1 := Nat.eq_of_beq_eq_true hc.1.2
    have hi : (n : Nat) < nL := Nat.le_of_ble_eq_true hc.2
    dsimp only [jaStep] at h
    obtain ⟨v, st', rfl, h'⟩ := jaPop_elim h
    obtain ⟨r, rfl, h'⟩ := jaLr_elim h'
    obtain ⟨h4, h'⟩ := jaBnf_elim h'
    have e1 : jaTr an sv (.inr (.inr r)) = .ref (an r) := by simp only [jaTr, jaAd, h4, cond_false]
    show W p l e R s m args below meth c H locs cells slots Qm (F0 m pc lsA (jaTr an sv (.inr (.inr r)) :: st'.map (jaTr an sv)))
    rw [e1]
    refine lv_astore_n hx hb hd rfl hlh.has hi rfl (fun ls' hl' => ?_)
    have hl2 := jaLh.set (v := .inr (.inr r)) hs hlen hi (by rw [e1]; exact hl')
    have q := h' hsuf (jaVl_set hvl hvs.1 (by omega)) hvs.2 h21 H locs ls' hl2 hhp hS
    rw [hn] at q
    exact q
  | astore n =>
    simp only [jaCk1, Bool.and_eq_true] at hc
    have hd := jaD_ok hc.1.1
    have hn : jaPc is = pc + 2 := Nat.eq_of_beq_eq_true hc.1.2
    have hi : (n : Nat) < nL := Nat.le_of_ble_eq_true hc.2
    dsimp only [jaStep] at h
    obtain ⟨v, st', rfl, h'⟩ := jaPop_elim h
    obtain ⟨r, rfl, h'⟩ := jaLr_elim h'
    obtain ⟨h4, h'⟩ := jaBnf_elim h'
    have e1 : jaTr an sv (.inr (.inr r)) = .ref (an r) := by simp only [jaTr, jaAd, h4, cond_false]
    show W p l e R s m args below meth c H locs cells slots Qm (F0 m pc lsA (jaTr an sv (.inr (.inr r)) :: st'.map (jaTr an sv)))
    rw [e1]
    refine lv_astore hx hb hd hlh.has hi rfl (fun ls' hl' => ?_)
    have hl2 := jaLh.set (v := .inr (.inr r)) hs hlen hi (by rw [e1]; exact hl')
    have q := h' hsuf (jaVl_set hvl hvs.1 (by omega)) hvs.2 h21 H locs ls' hl2 hhp hS
    rw [hn] at q
    exact q
  | lstore_n n =>
    simp only [jaCk1, Bool.and_eq_true] at hc
    have hd := jaD_ok hc.1.1
    have hn : jaPc is = pc + 1 := Nat.eq_of_beq_eq_true hc.1.2
    have hi : (n : Nat) + 1 < nL := Nat.le_of_ble_eq_true hc.2
    dsimp only [jaStep] at h
    obtain ⟨v, st', rfl, h'⟩ := jaPop_elim h
    obtain ⟨r, rfl, h'⟩ := jaLl_elim h'
    refine lv_lstore_n hx hb hd rfl hlh.has hi rfl (fun ls' hl' => ?_)
    have hl2 := jaLh.setL (v := r) hs hlen hi hl'
    have q := h' hsuf (jaVl_setL hvl (by omega)) hvs.2 h21 H locs ls' hl2 hhp hS
    rw [hn] at q
    exact q
  | lstore n =>
    simp only [jaCk1, Bool.and_eq_true] at hc
    have hd := jaD_ok hc.1.1
    have hn : jaPc is = pc + 2 := Nat.eq_of_beq_eq_true hc.1.2
    have hi : (n : Nat) + 1 < nL := Nat.le_of_ble_eq_true hc.2
    dsimp only [jaStep] at h
    obtain ⟨v, st', rfl, h'⟩ := jaPop_elim h
    obtain ⟨r, rfl, h'⟩ := jaLl_elim h'
    refine lv_lstore hx hb hd hlh.has hi rfl (fun ls' hl' => ?_)
    have hl2 := jaLh.setL (v := r) hs hlen hi hl'
    have q := h' hsuf (jaVl_setL hvl (by omega)) hvs.2 h21 H locs ls' hl2 hhp hS
    rw [hn] at q
    exact q
  | iconst n =>
    simp only [jaCk1, Bool.and_eq_true] at hc
    have hd := jaD_ok hc.1
    have hn : jaPc is = pc + 1 := Nat.eq_of_beq_eq_true hc.2
    have h' := h
    have q := h' hsuf hvl ⟨trivial, hvs⟩ h21 H locs lsA hlh hhp hS
    rw [hn] at q
    exact lv_iconst hx hb hd rfl q
  | bipush n =>
    simp only [jaCk1, Bool.and_eq_true] at hc
    have hd := jaD_ok hc.1
    have hn : jaPc is = pc + 2 := Nat.eq_of_beq_eq_true hc.2
    have h' := h
    have q := h' hsuf hvl ⟨trivial, hvs⟩ h21 H locs lsA hlh hhp hS
    rw [hn] at q
    exact lv_bipush hx hb hd rfl q
  | sipush n =>
    simp only [jaCk1, Bool.and_eq_true] at hc
    have hd := jaD_ok hc.1
    have hn : jaPc is = pc + 3 := Nat.eq_of_beq_eq_true hc.2
    have h' := h
    have q := h' hsuf hvl ⟨trivial, hvs⟩ h21 H locs lsA hlh hhp hS
    rw [hn] at q
    exact lv_sipush hx hb hd rfl q
  | lconst n =>
    simp only [jaCk1, Bool.and_eq_true] at hc
    have hd := jaD_ok hc.1
    have hn : jaPc is = pc + 1 := Nat.eq_of_beq_eq_true hc.2
    have h' := h
    have q := h' hsuf hvl ⟨trivial, hvs⟩ h21 H locs lsA hlh hhp hS
    rw [hn] at q
    exact lv_lconst hx hb hd rfl q
  | ldc idx =>
    simp only [jaCk1, Bool.and_eq_true] at hc
    have hd := jaD_ok hc.1.1
    have hn : jaPc is = pc + 2 := Nat.eq_of_beq_eq_true hc.1.2
    dsimp only [jaStep] at h
    split at h
    · have h' := h
      have q := h' hsuf hvl ⟨trivial, hvs⟩ h21 H locs lsA hlh hhp hS
      rw [hn] at q
      exact lv_ldc hx hb hown (hts _ (jaOk_in jaWI_ok _ (jaHas3_in hc.2)) rfl) hd q
    · have h' := h
      have hc2 := hc.2
      simp only [Bool.and_eq_true, Bool.or_eq_true] at hc2
      obtain ⟨ho, hk⟩ := hc2
      have ho := Nat.eq_of_beq_eq_true ho
      subst ho
      rcases hk with ⟨⟨k1, k2⟩, k3⟩ | ⟨⟨k1, k2⟩, k3⟩
      · have k1 := Nat.eq_of_beq_eq_true k1
        have k2 := Nat.eq_of_beq_eq_true k2
        have k3 := Nat.eq_of_beq_eq_true k3
        subst k1; subst k2; subst k3
        have q := h' hsuf hvl ⟨Or.inr (by decide), hvs⟩ h21 H locs lsA hlh hhp hS
        rw [hn] at q
        exact va_ldcS (own := "AgreedInput$Reader") (tx := jaS0) hx hb hown hE.2.2.1 hd q
      · have k1 := Nat.eq_of_beq_eq_true k1
        have k2 := Nat.eq_of_beq_eq_true k2
        have k3 := Nat.eq_of_beq_eq_true k3
        subst k1; subst k2; subst k3
        have q := h' hsuf hvl ⟨Or.inr (by decide), hvs⟩ h21 H locs lsA hlh hhp hS
        rw [hn] at q
        exact va_ldcS (own := "AgreedInput$Reader") (tx := jaS1) hx hb hown hE.2.2.2.1 hd q
    · exact hX _ _ _ _ h ⟨n0, hn0⟩ hvl hvs h21 H locs lsA hlh hhp hS
  | ldc_w idx =>
    simp only [jaCk1, Bool.and_eq_true] at hc
    have hd := jaD_ok hc.1.1
    have hn : jaPc is = pc + 3 := Nat.eq_of_beq_eq_true hc.1.2
    dsimp only [jaStep] at h
    split at h
    · have h' := h
      have q := h' hsuf hvl ⟨trivial, hvs⟩ h21 H locs lsA hlh hhp hS
      rw [hn] at q
      exact lv_ldcw hx hb hown (hts _ (jaOk_in jaWI_ok _ (jaHas3_in hc.2)) rfl) hd q
    · exact hX _ _ _ _ h ⟨n0, hn0⟩ hvl hvs h21 H locs lsA hlh hhp hS
  | ldc2_w idx =>
    simp only [jaCk1, Bool.and_eq_true] at hc
    have hd := jaD_ok hc.1.1
    have hn : jaPc is = pc + 3 := Nat.eq_of_beq_eq_true hc.1.2
    have h' := h
    have q := h' hsuf hvl ⟨trivial, hvs⟩ h21 H locs lsA hlh hhp hS
    rw [hn] at q
    exact lv_ldc2 hx hb hown (hts _ (jaOk_in jaWL_ok _ (jaHas3_in hc.2)) rfl) hd q
  | iinc n v =>
    simp only [jaCk1, Bool.and_eq_true] at hc
    have hd := jaD_ok hc.1.1
    have hn : jaPc is = pc + 3 := Nat.eq_of_beq_eq_true hc.1.2
    have hi : n < nL := Nat.le_of_ble_eq_true hc.2
    obtain ⟨w, hw, h'⟩ := jaLd_elim h
    obtain ⟨r, rfl, h'⟩ := jaLi_elim h'
    obtain ⟨k, hk⟩ := List.getElem?_of_mem (jaLv_mem (an := an) (sv := sv) hw)
    refine lv_iinc hx hb hd hlh.has hk rfl hi rfl (fun ls' hl' => ?_)
    have hl2 := jaLh.set (v := .inl (r + Int32.ofInt v)) hs hlen hi hl'
    have q := h' hsuf (jaVl_set hvl trivial (by omega)) hvs h21 H locs ls' hl2 hhp hS
    rw [hn] at q
    exact q
  | iadd =>
    simp only [jaCk1, Bool.and_eq_true] at hc
    have hd := jaD_ok hc.1
    have hn : jaPc is = pc + 1 := Nat.eq_of_beq_eq_true hc.2
    dsimp only [jaStep] at h
    obtain ⟨x, y, st', rfl, h'⟩ := jaB2_elim h
    have q := h' hsuf hvl ⟨trivial, hvs.2.2⟩ h21 H locs lsA hlh hhp hS
    rw [hn] at q
    exact lv_iadd hx hb hd q
  | isub =>
    simp only [jaCk1, Bool.and_eq_true] at hc
    have hd := jaD_ok hc.1
    have hn : jaPc is = pc + 1 := Nat.eq_of_beq_eq_true hc.2
    dsimp only [jaStep] at h
    obtain ⟨x, y, st', rfl, h'⟩ := jaB2_elim h
    have q := h' hsuf hvl ⟨trivial, hvs.2.2⟩ h21 H locs lsA hlh hhp hS
    rw [hn] at q
    exact lv_isub hx hb hd q
  | imul =>
    simp only [jaCk1, Bool.and_eq_true] at hc
    have hd := jaD_ok hc.1
    have hn : jaPc is = pc + 1 := Nat.eq_of_beq_eq_true hc.2
    dsimp only [jaStep] at h
    obtain ⟨x, y, st', rfl, h'⟩ := jaB2_elim h
    have q := h' hsuf hvl ⟨trivial, hvs.2.2⟩ h21 H locs lsA hlh hhp hS
    rw [hn] at q
    exact lv_imul hx hb hd q
  | iand =>
    simp only [jaCk1, Bool.and_eq_true] at hc
    have hd := jaD_ok hc.1
    have hn : jaPc is = pc + 1 := Nat.eq_of_beq_eq_true hc.2
    dsimp only [jaStep] at h
    obtain ⟨x, y, st', rfl, h'⟩ := jaB2_elim h
    have q := h' hsuf hvl ⟨trivial, hvs.2.2⟩ h21 H locs lsA hlh hhp hS
    rw [hn] at q
    exact lv_iand hx hb hd q
  | ior =>
    simp only [jaCk1, Bool.and_eq_true] at hc
    have hd := jaD_ok hc.1
    have hn : jaPc is = pc + 1 := Nat.eq_of_beq_eq_true hc.2
    dsimp only [jaStep] at h
    obtain ⟨x, y, st', rfl, h'⟩ := jaB2_elim h
    have q := h' hsuf hvl ⟨trivial, hvs.2.2⟩ h21 H locs lsA hlh hhp hS
    rw [hn] at q
    exact lv_ior hx hb hd q
  | ixor =>
    simp only [jaCk1, Bool.and_eq_true] at hc
    have hd := jaD_ok hc.1
    have hn : jaPc is = pc + 1 := Nat.eq_of_beq_eq_true hc.2
    dsimp only [jaStep] at h
    obtain ⟨x, y, st', rfl, h'⟩ := jaB2_elim h
    have q := h' hsuf hvl ⟨trivial, hvs.2.2⟩ h21 H locs lsA hlh hhp hS
    rw [hn] at q
    exact lv_ixor hx hb hd q
  | ishl =>
    simp only [jaCk1, Bool.and_eq_true] at hc
    have hd := jaD_ok hc.1
    have hn : jaPc is = pc + 1 := Nat.eq_of_beq_eq_true hc.2
    dsimp only [jaStep] at h
    obtain ⟨x, y, st', rfl, h'⟩ := jaB2_elim h
    have q := h' hsuf hvl ⟨trivial, hvs.2.2⟩ h21 H locs lsA hlh hhp hS
    rw [hn] at q
    exact lv_ishl hx hb hd q
  | ishr =>
    simp only [jaCk1, Bool.and_eq_true] at hc
    have hd := jaD_ok hc.1
    have hn : jaPc is = pc + 1 := Nat.eq_of_beq_eq_true hc.2
    dsimp only [jaStep] at h
    obtain ⟨x, y, st', rfl, h'⟩ := jaB2_elim h
    have q := h' hsuf hvl ⟨trivial, hvs.2.2⟩ h21 H locs lsA hlh hhp hS
    rw [hn] at q
    exact lv_ishr hx hb hd q
  | iushr =>
    simp only [jaCk1, Bool.and_eq_true] at hc
    have hd := jaD_ok hc.1
    have hn : jaPc is = pc + 1 := Nat.eq_of_beq_eq_true hc.2
    dsimp only [jaStep] at h
    obtain ⟨x, y, st', rfl, h'⟩ := jaB2_elim h
    have q := h' hsuf hvl ⟨trivial, hvs.2.2⟩ h21 H locs lsA hlh hhp hS
    rw [hn] at q
    exact lv_iushr hx hb hd rfl q
  | irem =>
    simp only [jaCk1, Bool.and_eq_true] at hc
    have hd := jaD_ok hc.1
    have hn : jaPc is = pc + 1 := Nat.eq_of_beq_eq_true hc.2
    dsimp only [jaStep] at h
    obtain ⟨v, st', rfl, h'⟩ := jaPop_elim h
    obtain ⟨y, rfl, hy, h'⟩ := jaLi_elim h'
    obtain ⟨x, st'', rfl, h'⟩ := jaB1_elim h'
    have q := h' hsuf hvl ⟨trivial, hvs.2.2⟩ h21 H locs lsA hlh hhp hS
    rw [hn] at q
    exact lv_irem hx hb hd hy q
  | ineg =>
    simp only [jaCk1, Bool.and_eq_true] at hc
    have hd := jaD_ok hc.1
    have hn : jaPc is = pc + 1 := Nat.eq_of_beq_eq_true hc.2
    dsimp only [jaStep] at h
    obtain ⟨x, st', rfl, h'⟩ := jaB1_elim h
    have q := h' hsuf hvl ⟨trivial, hvs.2⟩ h21 H locs lsA hlh hhp hS
    rw [hn] at q
    exact lv_ineg hx hb hd q
  | i2b =>
    simp only [jaCk1, Bool.and_eq_true] at hc
    have hd := jaD_ok hc.1
    have hn : jaPc is = pc + 1 := Nat.eq_of_beq_eq_true hc.2
    dsimp only [jaStep] at h
    obtain ⟨x, st', rfl, h'⟩ := jaB1_elim h
    have q := h' hsuf hvl ⟨trivial, hvs.2⟩ h21 H locs lsA hlh hhp hS
    rw [hn] at q
    exact lv_i2b hx hb hd rfl q
  | i2c =>
    simp only [jaCk1, Bool.and_eq_true] at hc
    have hd := jaD_ok hc.1
    have hn : jaPc is = pc + 1 := Nat.eq_of_beq_eq_true hc.2
    dsimp only [jaStep] at h
    obtain ⟨x, st', rfl, h'⟩ := jaB1_elim h
    have q := h' hsuf hvl ⟨trivial, hvs.2⟩ h21 H locs lsA hlh hhp hS
    rw [hn] at q
    exact lv_i2c hx hb hd rfl q
  | ladd =>
    simp only [jaCk1, Bool.and_eq_true] at hc
    have hd := jaD_ok hc.1
    have hn : jaPc is = pc + 1 := Nat.eq_of_beq_eq_true hc.2
    dsimp only [jaStep] at h
    obtain ⟨x, y, st', rfl, h'⟩ := jaL2_elim h
    have q := h' hsuf hvl ⟨trivial, hvs.2.2⟩ h21 H locs lsA hlh hhp hS
    rw [hn] at q
    exact lv_ladd hx hb hd q
  | lsub =>
    simp only [jaCk1, Bool.and_eq_true] at hc
    have hd := jaD_ok hc.1
    have hn : jaPc is = pc + 1 := Nat.eq_of_beq_eq_true hc.2
    dsimp only [jaStep] at h
    obtain ⟨x, y, st', rfl, h'⟩ := jaL2_elim h
    have q := h' hsuf hvl ⟨trivial, hvs.2.2⟩ h21 H locs lsA hlh hhp hS
    rw [hn] at q
    exact lv_lsub hx hb hd q
  | lmul =>
    simp only [jaCk1, Bool.and_eq_true] at hc
    have hd := jaD_ok hc.1
    have hn : jaPc is = pc + 1 := Nat.eq_of_beq_eq_true hc.2
    dsimp only [jaStep] at h
    obtain ⟨x, y, st', rfl, h'⟩ := jaL2_elim h
    have q := h' hsuf hvl ⟨trivial, hvs.2.2⟩ h21 H locs lsA hlh hhp hS
    rw [hn] at q
    exact lv_lmul hx hb hd q
  | land =>
    simp only [jaCk1, Bool.and_eq_true] at hc
    have hd := jaD_ok hc.1
    have hn : jaPc is = pc + 1 := Nat.eq_of_beq_eq_true hc.2
    dsimp only [jaStep] at h
    obtain ⟨x, y, st', rfl, h'⟩ := jaL2_elim h
    have q := h' hsuf hvl ⟨trivial, hvs.2.2⟩ h21 H locs lsA hlh hhp hS
    rw [hn] at q
    exact lv_land hx hb hd q
  | lor =>
    simp only [jaCk1, Bool.and_eq_true] at hc
    have hd := jaD_ok hc.1
    have hn : jaPc is = pc + 1 := Nat.eq_of_beq_eq_true hc.2
    dsimp only [jaStep] at h
    obtain ⟨x, y, st', rfl, h'⟩ := jaL2_elim h
    have q := h' hsuf hvl ⟨trivial, hvs.2.2⟩ h21 H locs lsA hlh hhp hS
    rw [hn] at q
    exact lv_lor hx hb hd q
  | lxor =>
    simp only [jaCk1, Bool.and_eq_true] at hc
    have hd := jaD_ok hc.1
    have hn : jaPc is = pc + 1 := Nat.eq_of_beq_eq_true hc.2
    dsimp only [jaStep] at h
    obtain ⟨x, y, st', rfl, h'⟩ := jaL2_elim h
    have q := h' hsuf hvl ⟨trivial, hvs.2.2⟩ h21 H locs lsA hlh hhp hS
    rw [hn] at q
    exact lv_lxor hx hb hd q
  | lshl =>
    simp only [jaCk1, Bool.and_eq_true] at hc
    have hd := jaD_ok hc.1
    have hn : jaPc is = pc + 1 := Nat.eq_of_beq_eq_true hc.2
    dsimp only [jaStep] at h
    obtain ⟨v, st', rfl, h'⟩ := jaPop_elim h
    obtain ⟨y, rfl, h'⟩ := jaLi_elim h'
    obtain ⟨v, st'', rfl, h'⟩ := jaPop_elim h'
    obtain ⟨x, rfl, h'⟩ := jaLl_elim h'
    have q := h' hsuf hvl ⟨trivial, hvs.2.2⟩ h21 H locs lsA hlh hhp hS
    rw [hn] at q
    exact lv_lshl hx hb hd rfl q
  | lushr =>
    simp only [jaCk1, Bool.and_eq_true] at hc
    have hd := jaD_ok hc.1
    have hn : jaPc is = pc + 1 := Nat.eq_of_beq_eq_true hc.2
    dsimp only [jaStep] at h
    obtain ⟨v, st', rfl, h'⟩ := jaPop_elim h
    obtain ⟨y, rfl, h'⟩ := jaLi_elim h'
    obtain ⟨v, st'', rfl, h'⟩ := jaPop_elim h'
    obtain ⟨x, rfl, h'⟩ := jaLl_elim h'
    have q := h' hsuf hvl ⟨trivial, hvs.2.2⟩ h21 H locs lsA hlh hhp hS
    rw [hn] at q
    exact lv_lushr hx hb hd rfl q
  | lcmp =>
    simp only [jaCk1, Bool.and_eq_true] at hc
    have hd := jaD_ok hc.1
    have hn : jaPc is = pc + 1 := Nat.eq_of_beq_eq_true hc.2
    dsimp only [jaStep] at h
    obtain ⟨v, st', rfl, h1⟩ := jaPop_elim h
    obtain ⟨y, rfl, h2⟩ := jaLl_elim h1
    obtain ⟨v2, st'', rfl, h3⟩ := jaPop_elim h2
    obtain ⟨x, rfl, h'⟩ := jaLl_elim h3
    have q := h' hsuf hvl ⟨trivial, hvs.2.2⟩ h21 H locs lsA hlh hhp hS
    rw [hn] at q
    exact W.lcmp hx hb hd q
  | i2l =>
    simp only [jaCk1, Bool.and_eq_true] at hc
    have hd := jaD_ok hc.1
    have hn : jaPc is = pc + 1 := Nat.eq_of_beq_eq_true hc.2
    dsimp only [jaStep] at h
    obtain ⟨v, st', rfl, h'⟩ := jaPop_elim h
    obtain ⟨x, rfl, h'⟩ := jaLi_elim h'
    have q := h' hsuf hvl ⟨trivial, hvs.2⟩ h21 H locs lsA hlh hhp hS
    rw [hn] at q
    exact lv_i2l hx hb hd rfl q
  | l2i =>
    simp only [jaCk1, Bool.and_eq_true] at hc
    have hd := jaD_ok hc.1
    have hn : jaPc is = pc + 1 := Nat.eq_of_beq_eq_true hc.2
    dsimp only [jaStep] at h
    obtain ⟨v, st', rfl, h'⟩ := jaPop_elim h
    obtain ⟨x, rfl, h'⟩ := jaLl_elim h'
    have q := h' hsuf hvl ⟨trivial, hvs.2⟩ h21 H locs lsA hlh hhp hS
    rw [hn] at q
    exact lv_l2i hx hb hd rfl q
  | dup =>
    simp only [jaCk1, Bool.and_eq_true] at hc
    have hd := jaD_ok hc.1
    have hn : jaPc is = pc + 1 := Nat.eq_of_beq_eq_true hc.2
    dsimp only [jaStep] at h
    split at h
    · have h' := h
      have q := h' hsuf hvl ⟨trivial, trivial, hvs.2⟩ h21 H locs lsA hlh hhp hS
      rw [hn] at q
      exact lv_dup hx hb hd rfl q
    · have h' := h
      have q := h' hsuf hvl ⟨hvs.1, hvs.1, hvs.2⟩ h21 H locs lsA hlh hhp hS
      rw [hn] at q
      exact lv_dup hx hb hd (by rw [jaTr_cat hs]; rfl) q
    · exact h.elim
  | dup_x1 =>
    simp only [jaCk1, Bool.and_eq_true] at hc
    have hd := jaD_ok hc.1
    have hn : jaPc is = pc + 1 := Nat.eq_of_beq_eq_true hc.2
    dsimp only [jaStep] at h
    split at h
    · have h' := h
      have q := h' hsuf hvl ⟨trivial, hvs.2.1, trivial, hvs.2.2⟩ h21 H locs lsA hlh hhp hS
      rw [hn] at q
      exact lv_dup_x1 hx hb hd rfl (by rw [jaTr_cat hs]; rfl) q
    · exact h.elim
  | dup2 =>
    simp only [jaCk1, Bool.and_eq_true] at hc
    have hd := jaD_ok hc.1
    have hn : jaPc is = pc + 1 := Nat.eq_of_beq_eq_true hc.2
    dsimp only [jaStep] at h
    split at h
    · have h' := h
      have q := h' hsuf hvl ⟨trivial, hvs.2.1, trivial, hvs.2.1, hvs.2.2⟩ h21 H locs lsA hlh hhp hS
      rw [hn] at q
      exact lv_dup2_11 hx hb hd rfl (by rw [jaTr_cat hs]; rfl) q
    · exact h.elim
  | pop =>
    simp only [jaCk1, Bool.and_eq_true] at hc
    have hd := jaD_ok hc.1
    have hn : jaPc is = pc + 1 := Nat.eq_of_beq_eq_true hc.2
    dsimp only [jaStep] at h
    split at h
    · have h' := h
      have q := h' hsuf hvl hvs.2 h21 H locs lsA hlh hhp hS
      rw [hn] at q
      exact lv_pop hx hb hd rfl q
    · exact h.elim
  | goto off =>
    dsimp only [jaStep] at h
    split at h
    · simp only [jaCk1, Bool.and_eq_true] at hc
      have hd := jaD_ok hc.1
      have ht : (pc : Int) + off = (jaPc (jaAt f ps a0) : Int) := of_decide_eq_true hc.2
      exact lv_goto hx hb hd ht (h (hat a0) hvl hvs h21 H locs lsA hlh hhp hS)
    · exact hX _ _ _ _ h ⟨n0, hn0⟩ hvl hvs h21 H locs lsA hlh hhp hS
  | ifCond cd off =>
    simp only [jaCk1, Bool.and_eq_true] at hc
    have hd := jaD_ok hc.1.1
    have hn : jaPc is = pc + 3 := Nat.eq_of_beq_eq_true hc.1.2
    have ht : (pc : Int) + off = (jaPc (jaAt f ps a0) : Int) := of_decide_eq_true hc.2
    dsimp only [jaStep] at h
    obtain ⟨v, st', rfl, h'⟩ := jaPop_elim h
    obtain ⟨x, rfl, h'⟩ := jaLi_elim h'
    cases cd <;> simp only [jaIf] at h'
    · exact lv_if_eq hx hb hd ht (fun q => h'.1 q (hat a0) hvl hvs.2 h21 H locs lsA hlh hhp hS) (fun q => by
        have q := h'.2 q hsuf hvl hvs.2 h21 H locs lsA hlh hhp hS
        rw [hn] at q
        exact q)
    · exact lv_if_ne hx hb hd ht (fun q => h'.1 q (hat a0) hvl hvs.2 h21 H locs lsA hlh hhp hS) (fun q => by
        have q := h'.2 q hsuf hvl hvs.2 h21 H locs lsA hlh hhp hS
        rw [hn] at q
        exact q)
    · exact lv_if_lt hx hb hd ht (fun q => h'.1 q (hat a0) hvl hvs.2 h21 H locs lsA hlh hhp hS) (fun q => by
        have q := h'.2 q hsuf hvl hvs.2 h21 H locs lsA hlh hhp hS
        rw [hn] at q
        exact q)
    · exact lv_if_ge hx hb hd ht (fun q => h'.1 q (hat a0) hvl hvs.2 h21 H locs lsA hlh hhp hS) (fun q => by
        have q := h'.2 q hsuf hvl hvs.2 h21 H locs lsA hlh hhp hS
        rw [hn] at q
        exact q)
    · exact lv_if_gt hx hb hd ht (fun q => h'.1 q (hat a0) hvl hvs.2 h21 H locs lsA hlh hhp hS) (fun q => by
        have q := h'.2 q hsuf hvl hvs.2 h21 H locs lsA hlh hhp hS
        rw [hn] at q
        exact q)
    · exact lv_if_le hx hb hd ht (fun q => h'.1 q (hat a0) hvl hvs.2 h21 H locs lsA hlh hhp hS) (fun q => by
        have q := h'.2 q hsuf hvl hvs.2 h21 H locs lsA hlh hhp hS
        rw [hn] at q
        exact q)
  | if_icmp cd off =>
    simp only [jaCk1, Bool.and_eq_true] at hc
    have hd := jaD_ok hc.1.1
    have hn : jaPc is = pc + 3 := Nat.eq_of_beq_eq_true hc.1.2
    have ht : (pc : Int) + off = (jaPc (jaAt f ps a0) : Int) := of_decide_eq_true hc.2
    dsimp only [jaStep] at h
    obtain ⟨v, st', rfl, h1⟩ := jaPop_elim h
    obtain ⟨y, rfl, h2⟩ := jaLi_elim h1
    obtain ⟨v2, st'', rfl, h3⟩ := jaPop_elim h2
    obtain ⟨x, rfl, h'⟩ := jaLi_elim h3
    cases cd <;> simp only [jaIf] at h'
    · exact lv_icmp_eq hx hb hd ht (fun q => h'.1 q (hat a0) hvl hvs.2.2 h21 H locs lsA hlh hhp hS) (fun q => by
        have q := h'.2 q hsuf hvl hvs.2.2 h21 H locs lsA hlh hhp hS
        rw [hn] at q
        exact q)
    · exact lv_icmp_ne hx hb hd ht (fun q => h'.1 q (hat a0) hvl hvs.2.2 h21 H locs lsA hlh hhp hS) (fun q => by
        have q := h'.2 q hsuf hvl hvs.2.2 h21 H locs lsA hlh hhp hS
        rw [hn] at q
        exact q)
    · exact lv_icmp_lt hx hb hd ht (fun q => h'.1 q (hat a0) hvl hvs.2.2 h21 H locs lsA hlh hhp hS) (fun q => by
        have q := h'.2 q hsuf hvl hvs.2.2 h21 H locs lsA hlh hhp hS
        rw [hn] at q
        exact q)
    · exact lv_icmp_ge hx hb hd ht (fun q => h'.1 q (hat a0) hvl hvs.2.2 h21 H locs lsA hlh hhp hS) (fun q => by
        have q := h'.2 q hsuf hvl hvs.2.2 h21 H locs lsA hlh hhp hS
        rw [hn] at q
        exact q)
    · exact lv_icmp_gt hx hb hd ht (fun q => h'.1 q (hat a0) hvl hvs.2.2 h21 H locs lsA hlh hhp hS) (fun q => by
        have q := h'.2 q hsuf hvl hvs.2.2 h21 H locs lsA hlh hhp hS
        rw [hn] at q
        exact q)
    · exact lv_icmp_le hx hb hd ht (fun q => h'.1 q (hat a0) hvl hvs.2.2 h21 H locs lsA hlh hhp hS) (fun q => by
        have q := h'.2 q hsuf hvl hvs.2.2 h21 H locs lsA hlh hhp hS
        rw [hn] at q
        exact q)
  | tableswitch d lo hi os =>
    simp only [jaCk1, Bool.and_eq_true] at hc
    obtain ⟨⟨⟨⟨⟨hd, ht⟩, hts'⟩, hsz⟩, hlo⟩, hhi⟩ := hc
    obtain ⟨n, hd⟩ := jaDs_ok hd
    have hsz := of_decide_eq_true hsz
    have hlo := of_decide_eq_true hlo
    have hhi := of_decide_eq_true hhi
    dsimp only [jaStep] at h
    obtain ⟨v, st', rfl, h1⟩ := jaPop_elim h
    obtain ⟨x, rfl, h2, h3⟩ := jaLi_elim h1
    by_cases hr : x.toInt < lo ∨ hi < x.toInt
    · exact lv_tableOut hx hb hd hr (of_decide_eq_true ht) (h2 hr (hat a0) hvl hvs.2 h21 H locs lsA hlh hhp hS)
    · have hr1 : ¬ x.toInt < lo := fun z => hr (Or.inl z)
      have hr2 : ¬ hi < x.toInt := fun z => hr (Or.inr z)
      have hk : (x.toInt - lo).toNat < os.size := by omega
      have ho : os[(x.toInt - lo).toNat]? = some os[(x.toInt - lo).toNat] := Array.getElem?_eq_getElem hk
      obtain ⟨t, ht1, ht2⟩ := jaTgs_at os.toList lx _ _ hts' (by rw [Array.getElem?_toList]; exact ho)
      have hJ := jaSw_at lx lo _ t h3 ht1 (by
        rw [jaInt_rt (by omega) (by omega)]
        omega)
      exact lv_tableIn hx hb hd hr1 hr2 ho (of_decide_eq_true ht2) (hJ (hat t) hvl hvs.2 h21 H locs lsA hlh hhp hS)
  | lookupswitch d qs =>
    simp only [jaCk1, Bool.and_eq_true] at hc
    obtain ⟨⟨⟨⟨⟨hd, ht⟩, hts'⟩, -⟩, hrg⟩, hsrt⟩ := hc
    obtain ⟨n, hd⟩ := jaDs_ok hd
    dsimp only [jaStep] at h
    obtain ⟨v, st', rfl, h1⟩ := jaPop_elim h
    obtain ⟨x, rfl, h2, h3⟩ := jaLi_elim h1
    obtain ⟨t, hJ, htt⟩ := jaLk_at ht qs.toList lx hts' (fun q hq => by
      have := List.all_eq_true.mp hrg q hq
      simp only [Bool.and_eq_true, decide_eq_true_eq] at this
      exact this) h2 h3
    exact lv_lookup hx hb hd hsrt rfl (of_decide_eq_true htt) (hJ (hat t) hvl hvs.2 h21 H locs lsA hlh hhp hS)
  | getfield idx =>
    simp only [jaCk1, Bool.and_eq_true] at hc
    have hd := jaD_ok hc.1.1
    have hn : jaPc is = pc + 3 := Nat.eq_of_beq_eq_true hc.1.2
    have hc2 := hc.2
    dsimp only [jaStep] at h
    split at h
    · rename_i o tag o' ka q k cp st'
      obtain ⟨hq, h'⟩ := jaBif_elim h
      have hq := Nat.eq_of_beq_eq_true hq
      subst hq
      simp only [Bool.or_eq_true] at hc2
      rcases hc2 with hc2 | hc2
      · simp only [jaFldF, Bool.and_eq_true] at hc2
        obtain ⟨⟨hob, htag⟩, hw⟩ := hc2
        have hob : (jaN (99, []) jaOb q).2[a0]? = some (tag, o', ka) := of_decide_eq_true hob
        have htag := Nat.le_of_ble_eq_true htag
        have hw := jaHas4_in hw
        have hr : (q, k, cp) ∈ jaRefs := jaVal_ob (r := (q, k, cp)) hvs.1 hob
        have hso := jaRefs_sort hr
        obtain ⟨q0, hq0, hws⟩ := jaWs_get (dA := dA) (an := an) (σ := σ) hr
        rw [jaCell_ob (r := (q, k, cp)) hob] at hws
        have hwf := List.all_eq_true.mp jaWF_facts0 _ hw
        simp only [jaWF_facts, Bool.and_eq_true] at hwf
        obtain ⟨⟨hci, ha⟩, hdc⟩ := hwf
        have hci := Nat.le_of_ble_eq_true hci
        have ha := Nat.le_of_ble_eq_true ha
        have hdc := of_decide_eq_true hdc
        have hcl0 : jaCl[(jaN (99, []) jaOb q).1]? = some (jaClN (jaN (99, []) jaOb q).1) := jaCl_at hci
        have hin : ∀ w ∈ u_ws (jaClN (jaN (99, []) jaOb q).1).1 (jaClN (jaN (99, []) jaOb q).1).2.1 (jaClN (jaN (99, []) jaOb q).1).2.2, w.before args s = true := fun w hw => hts w ((jaCl_facts hcl0).2.2 w hw) (jaLay_good hw)
        have hlink := hts _ (jaOk_in jaWF_ok _ hw) rfl
        have e1 : jaTr an sv (.inr (.inr (q, k, cp))) = .ref (an (q, k, cp)) := jaTr_ref (by have := hso.1; simp at this ⊢; omega)
        have hv := jaFvs_get an σ q k cp (jaN (99, []) jaOb q).2 0 a0 _ hob
        show W p l e R s m args below meth c H locs cells slots Qm (F0 m pc lsA (jaTr an sv (.inr (.inr (q, k, cp))) :: st'.map (jaTr an sv)))
        rw [e1]
        refine va_get hx hb hin (fun w hw => hw) hown hE.1 hhp.1 q0 hws hcl0 a0 ha hlink (fun x hx => by rw [hdc] at hx; exact hx) hv hd ?_
        match tag, htag, h', hob with
        | 0, _, h', _ =>
          have q := h' hsuf hvl ⟨trivial, hvs.2⟩ h21 H locs lsA hlh hhp hS
          rw [hn] at q
          rw [Nat.zero_add]
          exact q
        | 1, _, h', _ =>
          have q := h' hsuf hvl ⟨trivial, hvs.2⟩ h21 H locs lsA hlh hhp hS
          rw [hn] at q
          rw [Nat.zero_add]
          exact q
        | 2, _, h', _ =>
          have q := h' hsuf hvl ⟨trivial, hvs.2⟩ h21 H locs lsA hlh hhp hS
          rw [hn] at q
          rw [Nat.zero_add]
          exact q
        | 3, _, h', hob =>
          have hr' := jaOb_closed hr hob
          have q := h' hsuf hvl ⟨Or.inl hr', hvs.2⟩ h21 H locs lsA hlh hhp hS
          rw [hn] at q
          have e2 : jaTr an sv (.inr (.inr (o', k + ka, cp))) = .ref (an (o', k + ka, cp)) := jaTr_ref (by have := (jaRefs_sort hr').1; simp at this ⊢; omega)
          have q : W p l e R s m args below meth c H locs cells slots Qm (F0 m (pc + 3) lsA (jaTr an sv (.inr (.inr (o', k + ka, cp))) :: st'.map (jaTr an sv))) := q
          rw [e2] at q
          exact q
        | n + 4, ht, _, _ => omega
      · simp only [jaStrF, Bool.and_eq_true, Bool.or_eq_true] at hc2
        obtain ⟨⟨ho, ho2⟩, hk⟩ := hc2
        have ho := Nat.eq_of_beq_eq_true ho
        subst ho
        have hvk := hE.2.2.2.2.2.2
        have ho2 : (q = 100 ∧ k = 23 ∧ cp = 0) ∨ (q = 102 ∧ k = 24 ∧ cp = 0) := by
          rcases ho2 with z | z
          · have z := Nat.eq_of_beq_eq_true z
            subst z
            exact Or.inl ⟨rfl, jaSp_100 hvs.1⟩
          · have z := Nat.eq_of_beq_eq_true z
            subst z
            exact Or.inr ⟨rfl, jaSp_102 hvs.1⟩
        rcases hk with ⟨⟨⟨k1, k2⟩, k3⟩, k4⟩ | ⟨⟨k1, k2⟩, k3⟩
        · have k1 := Nat.eq_of_beq_eq_true k1
          have k2 := Nat.eq_of_beq_eq_true k2
          have k3 := Nat.eq_of_beq_eq_true k3
          have k4 := Nat.eq_of_beq_eq_true k4
          subst k1; subst k2; subst k3; subst k4
          rcases ho2 with ⟨rfl, rfl, rfl⟩ | ⟨rfl, rfl, rfl⟩
          · have q := h' hsuf hvl ⟨Or.inr (by decide), hvs.2⟩ h21 H locs lsA hlh hhp hS
            rw [hn] at q
            exact vk_getf (own := "java/lang/String") hx hb (hvk.1 0 (by decide)).2.2.1 hS hown (hts _ jaFS9 rfl) (fun x hx => hx) hd q
          · have q := h' hsuf hvl ⟨Or.inr (by decide), hvs.2⟩ h21 H locs lsA hlh hhp hS
            rw [hn] at q
            exact vk_getf (own := "java/lang/String") hx hb (hvk.1 1 (by decide)).2.2.1 hS hown (hts _ jaFS9 rfl) (fun x hx => hx) hd q
        · have k1 := Nat.eq_of_beq_eq_true k1
          have k2 := Nat.eq_of_beq_eq_true k2
          have k3 := Nat.eq_of_beq_eq_true k3
          subst k1; subst k2; subst k3
          rcases ho2 with ⟨rfl, rfl, rfl⟩ | ⟨rfl, rfl, rfl⟩
          · have q := h' hsuf hvl ⟨trivial, hvs.2⟩ h21 H locs lsA hlh hhp hS
            rw [hn] at q
            exact vk_getf (own := "java/lang/String") hx hb (hvk.1 0 (by decide)).2.1 hS hown (hts _ jaFS15 rfl) (fun x hx => hx) hd q
          · have q := h' hsuf hvl ⟨trivial, hvs.2⟩ h21 H locs lsA hlh hhp hS
            rw [hn] at q
            exact vk_getf (own := "java/lang/String") hx hb (hvk.1 1 (by decide)).2.1 hS hown (hts _ jaFS15 rfl) (fun x hx => hx) hd q
    · exact h.elim
  | putfield idx =>
    simp only [jaCk1, Bool.and_eq_true] at hc
    have hd := jaD_ok hc.1.1
    have hn : jaPc is = pc + 3 := Nat.eq_of_beq_eq_true hc.1.2
    have hc2 := hc.2
    have key : ∀ (q k cp tag o' ka : Nat) (v : Value) (τ : jaT) (st' : List jaV) (ty : FieldType), ((q, k, cp) ∈ jaRefs ∨ (q, k, cp) ∈ jaSp) → jaFldF own idx a0 q tag o' ka = true → jaPutF q a0 tag = true →
        ((jaN (99, []) jaOb q).2[a0]? = some (tag, o', ka) → parseFieldDescriptor ((jaClN (jaN (99, []) jaOb q).1).2.1 a0).2.2.1 = some ty) → narrow ty v = v → fits ty v = true →
        ((jaN (99, []) jaOb q).2[a0]? = some (tag, o', ka) → (jaFvs an σ q k cp 0 (jaN (99, []) jaOb q).2).set a0 v = jaFvs an τ q k cp 0 (jaN (99, []) jaOb q).2) →
        (∀ r, r ∈ jaRefs → r ≠ (q, k, cp) → jaCell dA an σ r = jaCell dA an τ r) → (k ≠ 21 → τ 21 = σ 21) →
        jaSim p l e R s m args below meth c D dA an sv A nL f S21 cells slots Qm is ls st' τ → jaVs st' → W p l e R s m args below meth c H locs cells slots Qm (F0 m pc lsA (v :: .ref (an (q, k, cp)) :: st'.map (jaTr an sv))) := by
      intro q k cp tag o' ka v τ st' ty hval hc2 hpf hdesc hnar hfit hset hoth h21' h' hvs'
      simp only [jaFldF, Bool.and_eq_true] at hc2
      obtain ⟨⟨hob, htag⟩, hw⟩ := hc2
      have hob : (jaN (99, []) jaOb q).2[a0]? = some (tag, o', ka) := of_decide_eq_true hob
      have hw := jaHas4_in hw
      have hr : (q, k, cp) ∈ jaRefs := jaVal_ob (r := (q, k, cp)) hval hob
      have hso := jaRefs_sort hr
      obtain ⟨q0, hq0, hws⟩ := jaWs_get (dA := dA) (an := an) (σ := σ) hr
      rw [jaCell_ob (r := (q, k, cp)) hob] at hws
      have hwf := List.all_eq_true.mp jaWF_facts0 _ hw
      simp only [jaWF_facts, Bool.and_eq_true] at hwf
      obtain ⟨⟨hci, ha⟩, hdc⟩ := hwf
      have hci := Nat.le_of_ble_eq_true hci
      have ha := Nat.le_of_ble_eq_true ha
      have hdc := of_decide_eq_true hdc
      have hcl0 : jaCl[(jaN (99, []) jaOb q).1]? = some (jaClN (jaN (99, []) jaOb q).1) := jaCl_at hci
      have hin : ∀ w ∈ u_ws (jaClN (jaN (99, []) jaOb q).1).1 (jaClN (jaN (99, []) jaOb q).1).2.1 (jaClN (jaN (99, []) jaOb q).1).2.2, w.before args s = true := fun w hw => hts w ((jaCl_facts hcl0).2.2 w hw) (jaLay_good hw)
      have hlink := hts _ (jaOk_in jaWF_ok _ hw) rfl
      obtain ⟨⟨ty0, hty0⟩, hnm, -⟩ := jaCl_facts hcl0
      have hfin : ((jaClN (jaN (99, []) jaOb q).1).2.1 a0).2.2.2 = false := by simpa [jaPutF] using hpf
      have hl0 : a0 < (jaFvs an σ q k cp 0 (jaN (99, []) jaOb q).2).length := by
        rw [jaFvs_len]
        exact (List.getElem?_eq_some_iff.mp hob).1
      refine va_put hx hb hin (fun w hw => hw) ty0 hty0 hnm hown hE.1 hhp.1 hhp.2 hS q0 hws hcl0 a0 ha hlink (fun x hx => by rw [hdc] at hx; exact hx) hfin (hdesc hob) hnar hfit hl0 hd (fun H1 locs1 hP1 hD1 hS1 => ?_)
      have e3 := jaWs_set (dA := dA) (an := an) (σ := σ) (τ := τ) (r := (q, k, cp)) (e := .inr ((jaN (99, []) jaOb q).1, (jaFvs an σ q k cp 0 (jaN (99, []) jaOb q).2).set a0 v)) hhp.2 hq0 (by rw [hset hob, jaCell_ob (r := (q, k, cp)) hob]) hoth
      rw [e3] at hP1 hD1
      have q := h' hsuf hvl hvs' ((h21' hso.2.2.1).trans h21) H1 locs1 lsA hlh ⟨hP1, hD1⟩ hS1
      rw [hn] at q
      exact q
    have keyr : ∀ (q k cp : Nat) {tag o' ka : Nat}, ((q, k, cp) ∈ jaRefs ∨ (q, k, cp) ∈ jaSp) → jaFldF own idx a0 q tag o' ka = true → jaTr an sv (.inr (.inr (q, k, cp))) = .ref (an (q, k, cp)) := by
      intro q k cp tag o' ka hval hc2
      simp only [jaFldF, Bool.and_eq_true] at hc2
      have hr : (q, k, cp) ∈ jaRefs := jaVal_ob (r := (q, k, cp)) hval (of_decide_eq_true hc2.1.1)
      exact jaTr_ref (by have := (jaRefs_sort hr).1; simp at this ⊢; omega)
    dsimp only [jaStep] at h
    split at h
    · rename_i o o' ka v q k cp st'
      obtain ⟨hq, h'⟩ := jaBif_elim h
      have hq := Nat.eq_of_beq_eq_true hq
      subst hq
      simp only [Bool.and_eq_true] at hc2
      show W p l e R s m args below meth c H locs cells slots Qm (F0 m pc lsA (.int v :: jaTr an sv (.inr (.inr (q, k, cp))) :: st'.map (jaTr an sv)))
      rw [keyr q k cp hvs.2.1 hc2.1]
      exact key q k cp 0 o' ka (.int v) _ st' .int hvs.2.1 hc2.1 hc2.2 (fun hob => by rw [(jaOb_desc hob).1 rfl]; decide +kernel) rfl rfl (fun hob => jaFvs_put1 v _ 0 a0 a0 _ (by omega) hob (Or.inl rfl)) (fun r _ hne => jaCell_congr (fun i => (jaU_other1 hne i).symm) (fun i => (jaU_other2 i).symm)) (fun z => jaU_21 z) h' hvs.2.2
    · rename_i o o' ka v q k cp st'
      obtain ⟨hq, hv01, h'⟩ := jaBif_elim h
      have hq := Nat.eq_of_beq_eq_true hq
      subst hq
      simp only [Bool.and_eq_true] at hc2
      show W p l e R s m args below meth c H locs cells slots Qm (F0 m pc lsA (.int v :: jaTr an sv (.inr (.inr (q, k, cp))) :: st'.map (jaTr an sv)))
      rw [keyr q k cp hvs.2.1 hc2.1]
      exact key q k cp 2 o' ka (.int v) _ st' .boolean hvs.2.1 hc2.1 hc2.2 (fun hob => by rw [(jaOb_desc hob).2.2 rfl]; decide +kernel) (jaNarB hv01).1 (jaNarB hv01).2.1 (fun hob => jaFvs_put1 v _ 0 a0 a0 _ (by omega) hob (Or.inr rfl)) (fun r _ hne => jaCell_congr (fun i => (jaU_other1 hne i).symm) (fun i => (jaU_other2 i).symm)) (fun z => jaU_21 z) h' hvs.2.2
    · rename_i o o' ka v q k cp st'
      obtain ⟨hq, h'⟩ := jaBif_elim h
      have hq := Nat.eq_of_beq_eq_true hq
      subst hq
      simp only [Bool.and_eq_true] at hc2
      show W p l e R s m args below meth c H locs cells slots Qm (F0 m pc lsA (.long v :: jaTr an sv (.inr (.inr (q, k, cp))) :: st'.map (jaTr an sv)))
      rw [keyr q k cp hvs.2.1 hc2.1]
      exact key q k cp 1 o' ka (.long v) _ st' .long hvs.2.1 hc2.1 hc2.2 (fun hob => by rw [(jaOb_desc hob).2.1 rfl]; decide +kernel) rfl rfl (fun hob => jaFvs_put2 v _ 0 a0 a0 _ (by omega) hob rfl) (fun r _ hne => jaCell_congr (fun i => (jaU_otherL1 i).symm) (fun i => (jaU_otherL2 hne i).symm)) (fun z => jaU_21 z) h' hvs.2.2
    · exact h.elim
  | getstatic idx =>
    simp only [jaCk1, Bool.and_eq_true] at hc
    obtain ⟨⟨⟨hd, hn⟩, ho⟩, hc2⟩ := hc
    have hd := jaD_ok hd
    have hn : jaPc is = pc + 3 := Nat.eq_of_beq_eq_true hn
    have ho := Nat.eq_of_beq_eq_true ho
    subst ho
    dsimp only [jaStep] at h
    split at h
    · simp only [Bool.and_eq_true] at hc2
      have k1 := Nat.eq_of_beq_eq_true hc2.1
      have k2 := Nat.eq_of_beq_eq_true hc2.2
      subst k1; subst k2
      have q := h hsuf hvl ⟨trivial, hvs⟩ h21 H locs lsA hlh hhp hS
      rw [hn] at q
      exact va_gets (own := "java/lang/String") hx hb hE.2.2.2.2.1 hS hown (hts _ jaFS38 rfl) (fun x hx => hx) hd q
    · simp only [Bool.and_eq_true] at hc2
      have k1 := Nat.eq_of_beq_eq_true hc2.1.1
      have k2 := Nat.eq_of_beq_eq_true hc2.1.2
      have k3 := Nat.eq_of_beq_eq_true hc2.2
      subst k1; subst k2; subst k3
      have q := h hsuf hvl ⟨Or.inr (by decide), hvs⟩ h21 H locs lsA hlh hhp hS
      rw [hn] at q
      exact va_gets (own := "java/lang/String") hx hb hE.2.2.2.2.2.1 hS hown (hts _ jaFS1053 rfl) (fun x hx => hx) hd q
    · exact h.elim
  | arraylength =>
    simp only [jaCk1, Bool.and_eq_true] at hc
    have hd := jaD_ok hc.1
    have hn : jaPc is = pc + 1 := Nat.eq_of_beq_eq_true hc.2
    dsimp only [jaStep] at h
    split at h
    · rename_i o k cp st'
      split at h
      · exact h.elim
      · rename_i t n x hne5 he
        have h' := h
        have q := h' hsuf hvl ⟨trivial, hvs.2⟩ h21 H locs lsA hlh hhp hS
        rw [hn] at q
        have ht5 : t ≠ 5 := hne5
        by_cases h96 : o = 96
        · subst h96
          rcases hA96 with z | ⟨L, r, z, hXs, hnA⟩
          · rw [he] at z
            exact absurd z ht5
          · rw [he] at z
            obtain ⟨rfl, rfl⟩ := jaSp_96 hvs.1
            obtain ⟨scr, x1, x2, x3, x4, -⟩ := hXs
            have e2 : n = L := by injection z with z1 z2; injection z2
            subst e2
            have hcl' : H[an (96, 21, 0)]? = some scr := by rw [hS.2.1 _ (Array.getElem?_eq_some_iff.mp x1).1 hnA]; exact x1
            exact W.alen (n := Int32.ofNat n) hx hb hcl' x2 (by rw [x4]) rfl rfl hd q
        · rw [hAr o h96] at he
          by_cases ht6 : t = 6
          · subst ht6
            rcases jaVal_6 (r := (o, k, cp)) hvs.1 (by rw [he]) with e2 | e2
            · cases e2
              have e3 : n = 9 := by
                have : jaN (5, 0, 0, 0, false, false) jaAr 101 = (6, 9, 0, 0, false, false) := by decide
                rw [this] at he
                cases he
                rfl
              subst e3
              exact va_tlen hx hb (hE.2.2.2.2.2.2.1 0 (by decide)).2.2.2 hS rfl hd q
            · cases e2
              have e3 : n = 158 := by
                have : jaN (5, 0, 0, 0, false, false) jaAr 103 = (6, 158, 1, 0, false, false) := by decide
                rw [this] at he
                cases he
                rfl
              subst e3
              exact va_tlen hx hb (hE.2.2.2.2.2.2.1 1 (by decide)).2.2.2 hS rfl hd q
          · have hr : (o, k, cp) ∈ jaRefs := jaVal_ar (r := (o, k, cp)) hvs.1 h96 (by rw [he]; exact ht5) (by rw [he]; exact ht6)
            have htl := jaAr_tag o
            rw [he] at htl
            obtain ⟨q0, hq0, hws⟩ := jaArr_get (dA := dA) (an := an) (σ := σ) (r := (o, k, cp)) hr he ht5
            have e1 : jaTr an sv (.inr (.inr (o, k, cp))) = .ref (an (o, k, cp)) := jaTr_ref (by have := (jaRefs_sort hr).1; simp at this ⊢; omega)
            show W p l e R s m args below meth c H locs cells slots Qm (F0 m pc lsA (jaTr an sv (.inr (.inr (o, k, cp))) :: st'.map (jaTr an sv)))
            rw [e1]
            match t, htl, ht5, ht6, hws with
            | 0, _, _, _, hws => exact va_alen hx hb hE.1 hhp.1 q0 0 hws rfl rfl hd q
            | 1, _, _, _, hws => exact va_alen hx hb hE.1 hhp.1 q0 1 hws rfl rfl hd q
            | 2, _, _, _, hws => exact va_alen hx hb hE.1 hhp.1 q0 2 hws rfl rfl hd q
            | 3, _, _, _, hws => exact va_alen hx hb hE.1 hhp.1 q0 3 hws rfl rfl hd q
            | 4, _, _, _, hws =>
              obtain ⟨o', a, fb, fd⟩ := x
              have hws : (jaWs dA an σ)[q0]? = some (an (o, k, cp), .inl (dA (if o' = 50 then 4 else if o' = 20 then 5 else 6), n, .inr (.inr (.inr (.inr fun j => some (an (o', k + (a + (bif fb then j else 0)), bif fd then j else 0))))))) := hws
              by_cases z1 : o' = 50
              · rw [if_pos z1] at hws
                exact va_alen hx hb hE.1 hhp.1 q0 4 hws rfl rfl hd q
              · rw [if_neg z1] at hws
                by_cases z2 : o' = 20
                · rw [if_pos z2] at hws
                  exact va_alen hx hb hE.1 hhp.1 q0 5 hws rfl rfl hd q
                · rw [if_neg z2] at hws
                  exact va_alen hx hb hE.1 hhp.1 q0 6 hws rfl rfl hd q
            | 5, _, z, _, _ => exact absurd rfl z
            | 6, _, _, z, _ => exact absurd rfl z
            | w + 7, z, _, _, _ => exact absurd z (by omega)
    · exact h.elim
  | iaload =>
    simp only [jaCk1, Bool.and_eq_true] at hc
    have hd := jaD_ok hc.1
    have hn : jaPc is = pc + 1 := Nat.eq_of_beq_eq_true hc.2
    dsimp only [jaStep] at h
    split at h
    · rename_i x o k cp st'
      split at h
      · rename_i n x0 he
        obtain ⟨hin, h'⟩ := h
        have h96 : o ≠ 96 := by
          intro e0
          subst e0
          rcases hA96 with z | ⟨L, r, z, -⟩
          · rw [he] at z
            exact absurd z (by simp)
          · rw [he] at z
            exact absurd (congrArg (·.1) z) (by simp)
        rw [hAr o h96] at he
        have hr : (o, k, cp) ∈ jaRefs := jaVal_ar (r := (o, k, cp)) hvs.2.1 h96 (by rw [he]; simp) (by rw [he]; simp)
        obtain ⟨q0, hq0, hws⟩ := jaArr_get (dA := dA) (an := an) (σ := σ) (r := (o, k, cp)) hr he (by decide)
        have e1 : jaTr an sv (.inr (.inr (o, k, cp))) = .ref (an (o, k, cp)) := jaTr_ref (by have := (jaRefs_sort hr).1; simp at this ⊢; omega)
        show W p l e R s m args below meth c H locs cells slots Qm (F0 m pc lsA (.int x :: jaTr an sv (.inr (.inr (o, k, cp))) :: st'.map (jaTr an sv)))
        rw [e1]
        have q := h' hsuf hvl ⟨trivial, hvs.2.2⟩ h21 H locs lsA hlh hhp hS
        rw [hn] at q
        exact va_iald hx hb hE.1 hhp.1 q0 0 hws rfl hin hd q
      · rename_i n x0 he
        obtain ⟨hin, h'⟩ := h
        have h96 : o = 96 := by
          by_cases e0 : o = 96
          · exact e0
          · rw [hAr o e0] at he
            have := jaAr_tag o
            rw [he] at this
            exact absurd this (by simp)
        subst h96
        rcases hA96 with z | ⟨L, r, z, hXs, hnA⟩
        · rw [he] at z
          exact absurd z (by simp)
        · rw [he] at z
          obtain ⟨rfl, rfl⟩ := jaSp_96 hvs.2.1
          obtain ⟨scr, x1, x2, x3, x4, x5⟩ := hXs
          have e2 : n = L := by injection z with z1 z2; injection z2
          subst e2
          have hcl' : H[an (96, 21, 0)]? = some scr := by rw [hS.2.1 _ (Array.getElem?_eq_some_iff.mp x1).1 hnA]; exact x1
          have q := h' hsuf hvl ⟨trivial, hvs.2.2⟩ h21 H locs lsA hlh hhp hS
          rw [hn] at q
          have hlt : x.toNatClampNeg < n := Nat.not_le.mp fun q => hin (Or.inr q)
          have e4 : (σ 21).1 96 0 (jaIx x) = S21.1 96 0 x.toNatClampNeg := by rw [h21]; rfl
          have q : W p l e R s m args below meth c H locs cells slots Qm (F0 m (pc + 1) lsA (.int ((σ 21).1 96 0 (jaIx x)) :: st'.map (jaTr an sv))) := q
          rw [e4] at q
          exact W.iald (v := .int (S21.1 96 0 x.toNatClampNeg)) hx hb hcl' x2 x3 (by rw [x4]; exact hin) (x5 _ hlt) rfl rfl hd q
      · exact h.elim
    · exact h.elim
  | baload =>
    simp only [jaCk1, Bool.and_eq_true] at hc
    have hd := jaD_ok hc.1
    have hn : jaPc is = pc + 1 := Nat.eq_of_beq_eq_true hc.2
    dsimp only [jaStep] at h
    split at h
    · rename_i x o k cp st'
      split at h
      · rename_i n x0 he
        obtain ⟨hin, h'⟩ := h
        have h96 : o ≠ 96 := by
          intro e0
          subst e0
          rcases hA96 with z | ⟨L, r, z, -⟩
          · rw [he] at z
            exact absurd z (by simp)
          · rw [he] at z
            exact absurd (congrArg (·.1) z) (by simp)
        rw [hAr o h96] at he
        have hr : (o, k, cp) ∈ jaRefs := jaVal_ar (r := (o, k, cp)) hvs.2.1 h96 (by rw [he]; simp) (by rw [he]; simp)
        obtain ⟨q0, hq0, hws⟩ := jaArr_get (dA := dA) (an := an) (σ := σ) (r := (o, k, cp)) hr he (by decide)
        have e1 : jaTr an sv (.inr (.inr (o, k, cp))) = .ref (an (o, k, cp)) := jaTr_ref (by have := (jaRefs_sort hr).1; simp at this ⊢; omega)
        show W p l e R s m args below meth c H locs cells slots Qm (F0 m pc lsA (.int x :: jaTr an sv (.inr (.inr (o, k, cp))) :: st'.map (jaTr an sv)))
        rw [e1]
        have q := h' hsuf hvl ⟨trivial, hvs.2.2⟩ h21 H locs lsA hlh hhp hS
        rw [hn] at q
        exact va_zald hx hb hE.1 hhp.1 q0 2 hws rfl hin hd q
      · rename_i n x0 he
        obtain ⟨hin, h'⟩ := h
        have h96 : o ≠ 96 := by
          intro e0
          subst e0
          rcases hA96 with z | ⟨L, r, z, -⟩
          · rw [he] at z
            exact absurd z (by simp)
          · rw [he] at z
            exact absurd (congrArg (·.1) z) (by simp)
        rw [hAr o h96] at he
        have hr : (o, k, cp) ∈ jaRefs := jaVal_ar (r := (o, k, cp)) hvs.2.1 h96 (by rw [he]; simp) (by rw [he]; simp)
        obtain ⟨q0, hq0, hws⟩ := jaArr_get (dA := dA) (an := an) (σ := σ) (r := (o, k, cp)) hr he (by decide)
        have e1 : jaTr an sv (.inr (.inr (o, k, cp))) = .ref (an (o, k, cp)) := jaTr_ref (by have := (jaRefs_sort hr).1; simp at this ⊢; omega)
        show W p l e R s m args below meth c H locs cells slots Qm (F0 m pc lsA (.int x :: jaTr an sv (.inr (.inr (o, k, cp))) :: st'.map (jaTr an sv)))
        rw [e1]
        have q := h' hsuf hvl ⟨trivial, hvs.2.2⟩ h21 H locs lsA hlh hhp hS
        rw [hn] at q
        exact va_bald hx hb hE.1 hhp.1 q0 3 hws rfl hin hd q
      · rename_i n si x0 he
        obtain ⟨hin, h'⟩ := h
        have h96 : o ≠ 96 := by
          intro e0
          subst e0
          rcases hA96 with z | ⟨L, r, z, -⟩
          · rw [he] at z
            exact absurd z (by simp)
          · rw [he] at z
            exact absurd (congrArg (·.1) z) (by simp)
        rw [hAr o h96] at he
        have q := h' hsuf hvl ⟨trivial, hvs.2.2⟩ h21 H locs lsA hlh hhp hS
        rw [hn] at q
        rcases jaVal_6 (r := (o, k, cp)) hvs.2.1 (by rw [he]) with e2 | e2
        · cases e2
          have : jaN (5, 0, 0, 0, false, false) jaAr 101 = (6, 9, 0, 0, false, false) := by decide
          rw [this] at he
          cases he
          have hlt : x.toNatClampNeg < 9 := Nat.not_le.mp fun q => hin (Or.inr q)
          refine va_tb hx hb (hE.2.2.2.2.2.2.1 0 (by decide)).2.2.2 hS hin (v := .int (Int32.ofNat (jaN 0 (jaN [] jaStr 0) (jaIx x)))) ?_ hd q
          exact congrArg Value.int (jaBy_at 0 x.toNatClampNeg (by decide) (by exact hlt))
        · cases e2
          have : jaN (5, 0, 0, 0, false, false) jaAr 103 = (6, 158, 1, 0, false, false) := by decide
          rw [this] at he
          cases he
          have hlt : x.toNatClampNeg < 158 := Nat.not_le.mp fun q => hin (Or.inr q)
          refine va_tb hx hb (hE.2.2.2.2.2.2.1 1 (by decide)).2.2.2 hS hin (v := .int (Int32.ofNat (jaN 0 (jaN [] jaStr 1) (jaIx x)))) ?_ hd q
          exact congrArg Value.int (jaBy_at 1 x.toNatClampNeg (by decide) (by exact hlt))
      · exact h.elim
    · exact h.elim
  | laload =>
    simp only [jaCk1, Bool.and_eq_true] at hc
    have hd := jaD_ok hc.1
    have hn : jaPc is = pc + 1 := Nat.eq_of_beq_eq_true hc.2
    dsimp only [jaStep] at h
    split at h
    · rename_i x o k cp st'
      split at h
      · rename_i n x0 he
        obtain ⟨hin, h'⟩ := h
        have h96 : o ≠ 96 := by
          intro e0
          subst e0
          rcases hA96 with z | ⟨L, r, z, -⟩
          · rw [he] at z
            exact absurd z (by simp)
          · rw [he] at z
            exact absurd (congrArg (·.1) z) (by simp)
        rw [hAr o h96] at he
        have hr : (o, k, cp) ∈ jaRefs := jaVal_ar (r := (o, k, cp)) hvs.2.1 h96 (by rw [he]; simp) (by rw [he]; simp)
        obtain ⟨q0, hq0, hws⟩ := jaArr_get (dA := dA) (an := an) (σ := σ) (r := (o, k, cp)) hr he (by decide)
        have e1 : jaTr an sv (.inr (.inr (o, k, cp))) = .ref (an (o, k, cp)) := jaTr_ref (by have := (jaRefs_sort hr).1; simp at this ⊢; omega)
        show W p l e R s m args below meth c H locs cells slots Qm (F0 m pc lsA (.int x :: jaTr an sv (.inr (.inr (o, k, cp))) :: st'.map (jaTr an sv)))
        rw [e1]
        have q := h' hsuf hvl ⟨trivial, hvs.2.2⟩ h21 H locs lsA hlh hhp hS
        rw [hn] at q
        exact va_lald hx hb hE.1 hhp.1 q0 1 hws rfl hin hd q
      · exact h.elim
    · exact h.elim
  | aaload =>
    simp only [jaCk1, Bool.and_eq_true] at hc
    have hd := jaD_ok hc.1
    have hn : jaPc is = pc + 1 := Nat.eq_of_beq_eq_true hc.2
    dsimp only [jaStep] at h
    split at h
    · rename_i x o k cp st'
      split at h
      · rename_i n o' a fb fd he
        obtain ⟨hin, h'⟩ := h
        have h96 : o ≠ 96 := by
          intro e0
          subst e0
          rcases hA96 with z | ⟨L, r, z, -⟩
          · rw [he] at z
            exact absurd z (by simp)
          · rw [he] at z
            exact absurd (congrArg (·.1) z) (by simp)
        rw [hAr o h96] at he
        have hr : (o, k, cp) ∈ jaRefs := jaVal_ar (r := (o, k, cp)) hvs.2.1 h96 (by rw [he]; simp) (by rw [he]; simp)
        obtain ⟨q0, hq0, hws⟩ := jaArr_get (dA := dA) (an := an) (σ := σ) (r := (o, k, cp)) hr he (by decide)
        have e1 : jaTr an sv (.inr (.inr (o, k, cp))) = .ref (an (o, k, cp)) := jaTr_ref (by have := (jaRefs_sort hr).1; simp at this ⊢; omega)
        show W p l e R s m args below meth c H locs cells slots Qm (F0 m pc lsA (.int x :: jaTr an sv (.inr (.inr (o, k, cp))) :: st'.map (jaTr an sv)))
        rw [e1]
        have hlt : x.toNatClampNeg < n := Nat.not_le.mp fun q => hin (Or.inr q)
        have hr' := jaAr_closed (r := (o, k, cp)) hr he hlt
        have q := h' hsuf hvl ⟨Or.inl hr', hvs.2.2⟩ h21 H locs lsA hlh hhp hS
        rw [hn] at q
        have e2 : jaTr an sv (.inr (.inr (o', k + (a + (bif fb then jaIx x else 0)), bif fd then jaIx x else 0))) = .ref (an (o', k + (a + (bif fb then jaIx x else 0)), bif fd then jaIx x else 0)) := jaTr_ref (by have := (jaRefs_sort hr').1; simp at this ⊢; omega)
        have q : W p l e R s m args below meth c H locs cells slots Qm (F0 m (pc + 1) lsA (jaTr an sv (.inr (.inr (o', k + (a + (bif fb then jaIx x else 0)), bif fd then jaIx x else 0))) :: st'.map (jaTr an sv))) := q
        rw [e2] at q
        have hws : (jaWs dA an σ)[q0]? = some (an (o, k, cp), .inl (dA (if o' = 50 then 4 else if o' = 20 then 5 else 6), n, .inr (.inr (.inr (.inr fun j => some (an (o', k + (a + (bif fb then j else 0)), bif fd then j else 0))))))) := hws
        by_cases z1 : o' = 50
        · rw [if_pos z1] at hws
          exact va_aldq hx hb hE.1 hhp.1 q0 4 hws rfl hin hd q
        · rw [if_neg z1] at hws
          by_cases z2 : o' = 20
          · rw [if_pos z2] at hws
            exact va_aldq hx hb hE.1 hhp.1 q0 5 hws rfl hin hd q
          · rw [if_neg z2] at hws
            exact va_aldq hx hb hE.1 hhp.1 q0 6 hws rfl hin hd q
      · exact h.elim
    · exact h.elim
  | iastore =>
    simp only [jaCk1, Bool.and_eq_true] at hc
    have hd := jaD_ok hc.1
    have hn : jaPc is = pc + 1 := Nat.eq_of_beq_eq_true hc.2
    dsimp only [jaStep] at h
    split at h
    · rename_i v x o k cp st'
      split at h
      · rename_i n x0 he
        obtain ⟨hin, h'⟩ := h
        have h96 : o ≠ 96 := by
          intro e0
          subst e0
          rcases hA96 with z | ⟨L, r, z, -⟩
          · rw [he] at z
            exact absurd z (by simp)
          · rw [he] at z
            exact absurd (congrArg (·.1) z) (by simp)
        rw [hAr o h96] at he
        have hr : (o, k, cp) ∈ jaRefs := jaVal_ar (r := (o, k, cp)) hvs.2.2.1 h96 (by rw [he]; simp) (by rw [he]; simp)
        obtain ⟨q0, hq0, hws⟩ := jaArr_get (dA := dA) (an := an) (σ := σ) (r := (o, k, cp)) hr he (by decide)
        have e1 : jaTr an sv (.inr (.inr (o, k, cp))) = .ref (an (o, k, cp)) := jaTr_ref (by have := (jaRefs_sort hr).1; simp at this ⊢; omega)
        show W p l e R s m args below meth c H locs cells slots Qm (F0 m pc lsA (.int v :: .int x :: jaTr an sv (.inr (.inr (o, k, cp))) :: st'.map (jaTr an sv)))
        rw [e1]
        refine va_iast hx hb hE.1 hhp.1 hhp.2 hS q0 0 hws rfl hin hd (fun H1 locs1 hP1 hD1 hS1 => ?_)
        have e3 := jaWs_set (dA := dA) (an := an) (σ := σ) (τ := jaU σ k (jaUI (σ k) o cp (jaIx x) v)) (r := (o, k, cp)) (e := .inl (dA 0, n, .inl (upd (fun j => (σ k).1 o cp j) x.toNatClampNeg v))) hhp.2 hq0 (by
          rw [jaCell_ar hr (by rw [he]; simp), he]
          show _ = jaArE dA an _ o k cp _
          simp only [jaArE]
          congr 4
          funext j
          simp only [upd, jaU_at1, jaIx]) (fun r _ hne => jaCell_congr (fun i => (jaU_other1 hne i).symm) (fun i => (jaU_other2 i).symm))
        rw [e3] at hP1 hD1
        have q := h' hsuf hvl hvs.2.2.2 ((jaU_21 (jaRefs_sort hr).2.2.1).trans h21) H1 locs1 lsA hlh ⟨hP1, hD1⟩ hS1
        rw [hn] at q
        exact q
      · exact h.elim
    · exact h.elim
  | bastore =>
    simp only [jaCk1, Bool.and_eq_true] at hc
    have hd := jaD_ok hc.1
    have hn : jaPc is = pc + 1 := Nat.eq_of_beq_eq_true hc.2
    dsimp only [jaStep] at h
    split at h
    · rename_i v x o k cp st'
      split at h
      · rename_i n x0 he
        obtain ⟨hin, hv01, h'⟩ := h
        have h96 : o ≠ 96 := by
          intro e0
          subst e0
          rcases hA96 with z | ⟨L, r, z, -⟩
          · rw [he] at z
            exact absurd z (by simp)
          · rw [he] at z
            exact absurd (congrArg (·.1) z) (by simp)
        rw [hAr o h96] at he
        have hr : (o, k, cp) ∈ jaRefs := jaVal_ar (r := (o, k, cp)) hvs.2.2.1 h96 (by rw [he]; simp) (by rw [he]; simp)
        obtain ⟨q0, hq0, hws⟩ := jaArr_get (dA := dA) (an := an) (σ := σ) (r := (o, k, cp)) hr he (by decide)
        have e1 : jaTr an sv (.inr (.inr (o, k, cp))) = .ref (an (o, k, cp)) := jaTr_ref (by have := (jaRefs_sort hr).1; simp at this ⊢; omega)
        show W p l e R s m args below meth c H locs cells slots Qm (F0 m pc lsA (.int v :: .int x :: jaTr an sv (.inr (.inr (o, k, cp))) :: st'.map (jaTr an sv)))
        rw [e1]
        refine va_zast hx hb hE.1 hhp.1 hhp.2 hS q0 2 hws rfl hin hd (fun H1 locs1 hP1 hD1 hS1 => ?_)
        have e3 := jaWs_set (dA := dA) (an := an) (σ := σ) (τ := jaU σ k (jaUI (σ k) o cp (jaIx x) v)) (r := (o, k, cp)) (e := .inl (dA 2, n, .inl (upd (fun j => (σ k).1 o cp j) x.toNatClampNeg (vp_nar .boolean v)))) hhp.2 hq0 (by
          rw [jaCell_ar hr (by rw [he]; simp), he]
          show _ = jaArE dA an _ o k cp _
          simp only [jaArE]
          congr 4
          funext j
          rw [(jaNarB hv01).2.2]
          simp only [upd, jaU_at1, jaIx]) (fun r _ hne => jaCell_congr (fun i => (jaU_other1 hne i).symm) (fun i => (jaU_other2 i).symm))
        rw [e3] at hP1 hD1
        have q := h' hsuf hvl hvs.2.2.2 ((jaU_21 (jaRefs_sort hr).2.2.1).trans h21) H1 locs1 lsA hlh ⟨hP1, hD1⟩ hS1
        rw [hn] at q
        exact q
      · rename_i n x0 he
        obtain ⟨hin, h'⟩ := h
        have h96 : o ≠ 96 := by
          intro e0
          subst e0
          rcases hA96 with z | ⟨L, r, z, -⟩
          · rw [he] at z
            exact absurd z (by simp)
          · rw [he] at z
            exact absurd (congrArg (·.1) z) (by simp)
        rw [hAr o h96] at he
        have hr : (o, k, cp) ∈ jaRefs := jaVal_ar (r := (o, k, cp)) hvs.2.2.1 h96 (by rw [he]; simp) (by rw [he]; simp)
        obtain ⟨q0, hq0, hws⟩ := jaArr_get (dA := dA) (an := an) (σ := σ) (r := (o, k, cp)) hr he (by decide)
        have e1 : jaTr an sv (.inr (.inr (o, k, cp))) = .ref (an (o, k, cp)) := jaTr_ref (by have := (jaRefs_sort hr).1; simp at this ⊢; omega)
        show W p l e R s m args below meth c H locs cells slots Qm (F0 m pc lsA (.int v :: .int x :: jaTr an sv (.inr (.inr (o, k, cp))) :: st'.map (jaTr an sv)))
        rw [e1]
        refine va_bast hx hb hE.1 hhp.1 hhp.2 hS q0 3 hws rfl hin hd (fun H1 locs1 hP1 hD1 hS1 => ?_)
        have e3 := jaWs_set (dA := dA) (an := an) (σ := σ) (τ := jaU σ k (jaUI (σ k) o cp (jaIx x) v.toInt8.toInt32)) (r := (o, k, cp)) (e := .inl (dA 3, n, .inl (upd (fun j => (σ k).1 o cp j) x.toNatClampNeg (vp_nar .byte v)))) hhp.2 hq0 (by
          rw [jaCell_ar hr (by rw [he]; simp), he]
          show _ = jaArE dA an _ o k cp _
          simp only [jaArE]
          congr 4
          funext j
          rw [vp_nar_byte]
          simp only [upd, jaU_at1, jaIx]) (fun r _ hne => jaCell_congr (fun i => (jaU_other1 hne i).symm) (fun i => (jaU_other2 i).symm))
        rw [e3] at hP1 hD1
        have q := h' hsuf hvl hvs.2.2.2 ((jaU_21 (jaRefs_sort hr).2.2.1).trans h21) H1 locs1 lsA hlh ⟨hP1, hD1⟩ hS1
        rw [hn] at q
        exact q
      · exact h.elim
    · exact h.elim
  | lastore =>
    simp only [jaCk1, Bool.and_eq_true] at hc
    have hd := jaD_ok hc.1
    have hn : jaPc is = pc + 1 := Nat.eq_of_beq_eq_true hc.2
    dsimp only [jaStep] at h
    split at h
    · rename_i v x o k cp st'
      split at h
      · rename_i n x0 he
        obtain ⟨hin, h'⟩ := h
        have h96 : o ≠ 96 := by
          intro e0
          subst e0
          rcases hA96 with z | ⟨L, r, z, -⟩
          · rw [he] at z
            exact absurd z (by simp)
          · rw [he] at z
            exact absurd (congrArg (·.1) z) (by simp)
        rw [hAr o h96] at he
        have hr : (o, k, cp) ∈ jaRefs := jaVal_ar (r := (o, k, cp)) hvs.2.2.1 h96 (by rw [he]; simp) (by rw [he]; simp)
        obtain ⟨q0, hq0, hws⟩ := jaArr_get (dA := dA) (an := an) (σ := σ) (r := (o, k, cp)) hr he (by decide)
        have e1 : jaTr an sv (.inr (.inr (o, k, cp))) = .ref (an (o, k, cp)) := jaTr_ref (by have := (jaRefs_sort hr).1; simp at this ⊢; omega)
        show W p l e R s m args below meth c H locs cells slots Qm (F0 m pc lsA (.long v :: .int x :: jaTr an sv (.inr (.inr (o, k, cp))) :: st'.map (jaTr an sv)))
        rw [e1]
        refine va_last hx hb hE.1 hhp.1 hhp.2 hS q0 1 hws rfl hin hd (fun H1 locs1 hP1 hD1 hS1 => ?_)
        have e3 := jaWs_set (dA := dA) (an := an) (σ := σ) (τ := jaU σ k (jaUL (σ k) o cp (jaIx x) v)) (r := (o, k, cp)) (e := .inl (dA 1, n, .inr (.inl (vp_updL (fun j => (σ k).2 o cp j) x.toNatClampNeg v)))) hhp.2 hq0 (by
          rw [jaCell_ar hr (by rw [he]; simp), he]
          show _ = jaArE dA an _ o k cp _
          simp only [jaArE]
          congr 5
          funext j
          simp only [vp_updL, jaU_at2, jaIx]) (fun r _ hne => jaCell_congr (fun i => (jaU_otherL1 i).symm) (fun i => (jaU_otherL2 hne i).symm))
        rw [e3] at hP1 hD1
        have q := h' hsuf hvl hvs.2.2.2 ((jaU_21 (jaRefs_sort hr).2.2.1).trans h21) H1 locs1 lsA hlh ⟨hP1, hD1⟩ hS1
        rw [hn] at q
        exact q
      · exact h.elim
    · exact h.elim
  | ireturn =>
    dsimp only [jaStep] at h
    split at h
    · simp only [jaCk1, Bool.and_eq_true] at hc
      have hrt := Nat.eq_of_beq_eq_true hc.2
      exact hret _ σ H locs pc lsA h h21 hhp hS (Or.inr (Or.inr ⟨⟨_, rfl, Or.inl hrt⟩, jaD_ok hc.1⟩))
    · simp only [jaCk1, Bool.and_eq_true] at hc
      have hrt := Nat.eq_of_beq_eq_true hc.2
      exact hret _ σ H locs pc lsA h.2 h21 hhp hS (Or.inr (Or.inr ⟨⟨_, rfl, Or.inr (Or.inl ⟨hrt, h.1⟩)⟩, jaD_ok hc.1⟩))
    · simp only [jaCk1, Bool.and_eq_true] at hc
      have hrt := Nat.eq_of_beq_eq_true hc.2
      exact hret _ σ H locs pc lsA h.2 h21 hhp hS (Or.inr (Or.inr ⟨⟨_, rfl, Or.inr (Or.inr (Or.inl ⟨hrt, h.1⟩))⟩, jaD_ok hc.1⟩))
    · simp only [jaCk1, Bool.and_eq_true] at hc
      have hrt := Nat.eq_of_beq_eq_true hc.2
      exact hret _ σ H locs pc lsA h.2 h21 hhp hS (Or.inr (Or.inr ⟨⟨_, rfl, Or.inr (Or.inr (Or.inr ⟨hrt, h.1⟩))⟩, jaD_ok hc.1⟩))
    · exact hX _ _ _ _ h ⟨n0, hn0⟩ hvl hvs h21 H locs lsA hlh hhp hS
  | lreturn =>
    simp only [jaCk1, Bool.and_eq_true] at hc
    have hrt := Nat.eq_of_beq_eq_true hc.2
    dsimp only [jaStep] at h
    split at h
    · exact hret _ σ H locs pc lsA h h21 hhp hS (Or.inr (Or.inl ⟨hrt, ⟨_, rfl⟩, jaD_ok hc.1⟩))
    · exact h.elim
  | return_ =>
    simp only [jaCk1, Bool.and_eq_true] at hc
    have hrt := Nat.eq_of_beq_eq_true hc.2
    dsimp only [jaStep] at h
    split at h
    · exact hret _ σ H locs pc lsA h h21 hhp hS (Or.inl ⟨hrt, rfl, jaD_ok hc.1⟩)
    · exact h.elim
  | invokevirtual idx =>
    have key : ∀ (n rk o : Nat), jaD cc pc (.invokevirtual idx) 3 = true → jaCkV own idx a0 n rk o = true → (jaRecv o (st.take n).reverse && (Nat.ble (jaCat (st.drop n)) 8 && Nat.ble n st.length)) = true → ∀ Q' : jaQ, Γ a0 (st.take n).reverse σ Q' →
        ∃ a1 : Array Value, va_Run p l e R s m args below meth c H locs cells slots 0 0 (F0 m pc lsA (st.map (jaTr an sv))) ((st.drop n).map (jaTr an sv)) (jaQc D dA an (jaRt a0) (σ 21) Q' a1) (jaA0 an) := by
      intro n rk o hd hck hg Q' hq
      have hd := jaD_ok hd
      simp only [Bool.and_eq_true] at hg
      obtain ⟨hg1, hg2, hg3⟩ := hg
      have hg2 := Nat.le_of_ble_eq_true hg2
      have hg3 := Nat.le_of_ble_eq_true hg3
      simp only [jaCkV, Bool.and_eq_true] at hck
      obtain ⟨⟨⟨⟨⟨⟨⟨⟨hy, hst⟩, hn1⟩, hnp⟩, hrk⟩, hcn⟩, hos⟩, hmx⟩, hlk⟩ := hck
      have hy : a0 < 303 := Nat.le_of_ble_eq_true hy
      have hn1 := Nat.le_of_ble_eq_true hn1
      have hnp := of_decide_eq_true hnp
      have hcn := of_decide_eq_true hcn
      have hmx := Nat.le_of_ble_eq_true hmx
      have hst : (jaY a0).2.2.2.2.1 = false := by simpa using hst
      have hargs := hΓ a0 (st.take n).reverse σ Q' hy (jaVs_mem fun v hv => jaVs_all hvs v (List.mem_of_mem_take (List.mem_reverse.mp hv))) hq
      have hlen2 : (st.take n).reverse.length = n := by rw [List.length_reverse, List.length_take]; omega
      cases hA1 : (st.take n).reverse with
      | nil => rw [hA1] at hlen2; simp at hlen2; omega
      | cons A1 As =>
      rw [hA1] at hargs hg1 hlen2
      have hsp : st = As.reverse ++ A1 :: st.drop n := by
        have h1 : st.take n = As.reverse ++ [A1] := by
          have := congrArg List.reverse hA1
          rw [List.reverse_reverse, List.reverse_cons] at this
          exact this
        have h2 := List.take_append_drop n st
        rw [h1] at h2
        exact h2.symm.trans (by rw [List.append_assoc]; rfl)
      obtain ⟨q, k, cp, rfl, hqo⟩ : ∃ q k cp, A1 = .inr (.inr (q, k, cp)) ∧ q = o := by
        unfold jaRecv at hg1
        split at hg1
        · rename_i q k cp _ e0
          cases e0
          exact ⟨_, _, _, rfl, Nat.eq_of_beq_eq_true hg1⟩
        · cases hg1
      subst hqo
      have hval : (q, k, cp) ∈ jaRefs ∨ (q, k, cp) ∈ jaSp := jaVs_all hvs (.inr (.inr (q, k, cp))) (by rw [hsp]; simp)
      have hyc := (jaY_mem hy)
      have hrecv : ∃ cellB : Cell, H[an (q, k, cp)]? = some cellB ∧ cellB.vm.isStatics = false ∧ s.vm.findClass (jaY a0).1.cls = some cellB.cls := by
        rw [← hcn]
        simp only [Bool.or_eq_true] at hos
        by_cases z1 : q = 100
        · subst z1
          obtain ⟨rfl, rfl⟩ := jaSp_100 hval
          exact vk_recv (i := 0) hE.2.2.2.2.2.2 (by decide) hS
        · by_cases z2 : q = 102
          · subst z2
            obtain ⟨rfl, rfl⟩ := jaSp_102 hval
            exact vk_recv (i := 1) hE.2.2.2.2.2.2 (by decide) hS
          · have hne : (jaN (99, []) jaOb q).2 ≠ [] := by
              rcases hos with (z | z) | z
              · exact absurd (Nat.eq_of_beq_eq_true z) z1
              · exact absurd (Nat.eq_of_beq_eq_true z) z2
              · intro e0
                rw [e0] at z
                cases z
            obtain ⟨t, ht⟩ : ∃ t, (jaN (99, []) jaOb q).2[0]? = some t := by
              cases hz : (jaN (99, []) jaOb q).2 with
              | nil => exact absurd hz hne
              | cons t ts => exact ⟨t, rfl⟩
            have hr : (q, k, cp) ∈ jaRefs := jaVal_ob (r := (q, k, cp)) hval ht
            obtain ⟨q0, hq0, hws⟩ := jaWs_get (dA := dA) (an := an) (σ := σ) hr
            rw [jaCell_ob (r := (q, k, cp)) ht] at hws
            have hci : (jaN (99, []) jaOb q).1 < 12 := by
              have h4 := (jaRefs_sort hr).2.2.2
              have h4' : (match jaN (99, []) jaOb q with
                | (ci, _ :: _) => (jaN (5, 0, 0, 0, false, false) jaAr q).1 = 5 ∧ ci < 12
                | (_, []) => (jaN (5, 0, 0, 0, false, false) jaAr q).1 < 5 ∧ (match jaN (5, 0, 0, 0, false, false) jaAr q with
                  | (4, _, o', _) => o' = 50 ∨ o' = 20 ∨ o' = 40
                  | _ => True)) := h4
              revert h4' hne
              rcases jaN (99, []) jaOb q with ⟨ci, _ | ⟨u, us⟩⟩
              · intro z _; exact absurd rfl z
              · intro _ z; exact z.2
            have e5 : jaCn q = (jaClN (jaN (99, []) jaOb q).1).1 := by
              unfold jaCn
              have b1 : Nat.beq q 100 = false := by
                cases hb1 : Nat.beq q 100
                · rfl
                · exact absurd (Nat.eq_of_beq_eq_true hb1) z1
              have b2 : Nat.beq q 102 = false := by
                cases hb1 : Nat.beq q 102
                · rfl
                · exact absurd (Nat.eq_of_beq_eq_true hb1) z2
              rw [b1, b2]
              rfl
            rw [e5]
            exact va_recv hE.1 hhp.1 (jaCl_at hci) hws
      have hq104 : q ≠ 104 := by
        intro e0
        subst e0
        simp only [Bool.or_eq_true] at hos
        rcases hos with (z | z) | z
        · cases z
        · cases z
        · cases z
      have e1 : jaTr an sv (.inr (.inr (q, k, cp))) = .ref (an (q, k, cp)) := jaTr_ref hq104
      have hTB : ∀ w ∈ jaTB, w.before args s = true := fun w hw => hts w (List.mem_filter.mp hw).1 (List.mem_filter.mp hw).2
      have w0 : Jvm.Cond.instanceMethod (jaY a0).1 ∈ lw_tbl := by
        have := jaY_ok0 _ hyc
        rw [jaYw0, hst] at this
        exact this
      have w1 : Jvm.Cond.selects (jaY a0).1.cls (jaY a0).1 (jaY a0).1 ∈ lw_tbl := by
        have := jaY_ok1 _ hyc
        rw [jaYw1, hst] at this
        exact this
      have w2 : Jvm.Cond.initialized (jaY a0).1.cls ∈ lw_tbl := jaY_ok2 _ hyc
      have hR : (jaRm d).frames + 1 ≤ R.frames ∧ 8 + ((jaY a0).2.2.1 + 11) + (jaRm d).locals ≤ R.locals := ⟨hRf, by show 8 + ((jaY a0).2.2.1 + 11) + 64 * d ≤ R.locals; omega⟩
      have hnA : As.length = n - 1 := by simp at hlen2; omega
      have hnp' : (parseMethodDescriptor (jaY a0).1.desc).map (fun d => d.parameters.length) = some (n - 1) := hnp
      have hPV : PreV s H (jaY a0).1.cls (an (q, k, cp)) (va_Pc ((.inr (.inr (q, k, cp)) :: As).map (jaTr an sv)) (jaPre D dA an sv σ)) (As.map (jaTr an sv)) := by
        refine ⟨jaPre_blind, hrecv, fun U hU hW => ⟨?_, jaPre_at hE hA0 hhp hS hU hW⟩⟩
        rw [List.map_cons, e1]
      have hstk : (F0 m pc lsA (st.map (jaTr an sv))).stack = (As.map (jaTr an sv)).reverse ++ .ref (an (q, k, cp)) :: (st.drop n).map (jaTr an sv) := by
        show st.map (jaTr an sv) = _
        rw [← e1]
        conv => lhs; rw [hsp]
        simp
      have hWc : 2 * (F0 m pc lsA (st.map (jaTr an sv))).monitorRoom + (((st.drop n).map (jaTr an sv)).map fun v => v.category).sum ≤ 8 := by
        have := jaCats (an := an) hs (st.drop n)
        show 2 * 0 + _ ≤ 8
        omega
      refine ⟨(Value.ref (an (q, k, cp)) :: As.map (jaTr an sv)).toArray, ?_⟩
      simp only [Bool.or_eq_true] at hlk
      rcases hlk with hlk | hlk
      · have hlk := jaHas3_in hlk
        have w3 : Jvm.Cond.methodLink (jaN "" jaOn own) idx (jaY a0).1 ∈ lw_tbl := jaOk_in jaWM_ok _ hlk
        have hT : GoodIn jaTB (wsV (jaN "" jaOn own) idx (jaY a0).1.cls (jaY a0).1 (jaWds a0)) := by
          intro w hw
          rcases List.mem_append.mp hw with hw | hw
          · simp only [List.mem_cons, List.not_mem_nil, or_false] at hw
            rcases hw with rfl | rfl | rfl | rfl
            · exact ⟨jaTB_in w3 rfl, good_of_word rfl⟩
            · exact ⟨jaTB_in w0 rfl, good_of_word rfl⟩
            · exact ⟨jaTB_in w1 rfl, good_of_word rfl⟩
            · exact ⟨jaTB_in w2 rfl, good_of_word rfl⟩
          · exact jaWds_good hy w hw
        have cw := cwV (R := R) (n - 1) hTB hT rfl rfl rfl ⟨rfl, (jaY_mh a0 hy).1, (jaY_mh a0 hy).2, hnp'⟩ hR
        exact va_runV (As := As.map (jaTr an sv)) (rest := (st.drop n).map (jaTr an sv)) ⟨hx, hb, hml, hown, hTB⟩ hargs cw hPV rfl (by rw [List.length_map]; exact hnA) hlh.2.1 hstk hWc hd ⟨hcl, hsl⟩
      · simp only [Bool.and_eq_true] at hlk
        have k1 := Nat.eq_of_beq_eq_true hlk.1.1
        have k2 := Nat.eq_of_beq_eq_true hlk.1.2
        have k3 := of_decide_eq_true hlk.2
        subst k1; subst k2
        have hl : va_Nw (.methodLinkNest (jaN "" jaOn 8) 163 (jaY a0).1 "AgreedInput") s := by
          rw [k3]
          exact hE.2.1
        have cw := va_cnB (R := R) (s := s) (args := args) (own := jaN "" jaOn 8) (index := 163) (n - 1) hTB (jaWds_good hy) rfl rfl rfl hl (hts _ w2 rfl) ⟨(jaY_mh a0 hy).1, (jaY_mh a0 hy).2, hnp'⟩ hR
        exact va_runVN (As := As.map (jaTr an sv)) (rest := (st.drop n).map (jaTr an sv)) ⟨hx, hb, hml, hown, hTB⟩ hargs ⟨cw, hts _ w0 rfl, hts _ w1 rfl⟩ hPV rfl (by rw [List.length_map]; exact hnA) hlh.2.1 hstk hWc hd ⟨hcl, hsl⟩
    have hrkV : ∀ {n rk o : Nat}, jaCkV own idx a0 n rk o = true → jaRk a0 rk = true := by
      intro n rk o hck
      simp only [jaCkV, Bool.and_eq_true] at hck
      exact hck.1.1.1.1.2
    have hvd : ∀ n : Nat, jaVs (st.drop n) := fun n => jaVs_mem fun v hv => jaVs_all hvs v (List.mem_of_mem_drop hv)
    dsimp only [jaStep] at h
    split at h
    · rename_i n o
      obtain ⟨hg, h'⟩ := jaBif_elim h
      simp only [jaCk1, Bool.and_eq_true] at hc
      have hn : jaPc is = pc + 3 := Nat.eq_of_beq_eq_true hc.1.2
      obtain ⟨a1, hrun⟩ := key n 0 o hc.1.1 hc.2 hg _ h'
      rw [jaQc_v (hrkV hc.2)] at hrun
      refine va_callv hrun hS (fun q _ h => hA0 q h) hA0 (fun u t H1 locs1 ht hvm hp hB hz hk hS1 => ?_)
      have q := hp hsuf hvl (hvd n) (hB.2.trans h21) H1 locs1 lsA hlh ⟨by rw [← ht]; exact hB.1, jaHp.addr hhp.2⟩ hS1
      rw [hn] at q
      exact q
    · rename_i n o
      obtain ⟨hg, h'⟩ := jaBif_elim h
      simp only [jaCk1, Bool.and_eq_true] at hc
      have hn : jaPc is = pc + 3 := Nat.eq_of_beq_eq_true hc.1.2
      obtain ⟨a1, hrun⟩ := key n 1 o hc.1.1 hc.2 hg _ h'
      rw [jaQc_i (hrkV hc.2)] at hrun
      refine va_calli hrun hS (fun q _ h => hA0 q h) hA0 (fun r u t H1 locs1 ht hvm hp hB hz hk hS1 => ?_)
      have q := hp hsuf hvl ⟨trivial, hvd n⟩ (hB.2.trans h21) H1 locs1 lsA hlh ⟨by rw [← ht]; exact hB.1, jaHp.addr hhp.2⟩ hS1
      rw [hn] at q
      exact q
    · rename_i n o
      obtain ⟨hg, h'⟩ := jaBif_elim h
      simp only [jaCk1, Bool.and_eq_true] at hc
      have hn : jaPc is = pc + 3 := Nat.eq_of_beq_eq_true hc.1.2
      obtain ⟨a1, hrun⟩ := key n 2 o hc.1.1 hc.2 hg _ h'
      rw [jaQc_l (hrkV hc.2)] at hrun
      refine va_calll hrun hS (fun q _ h => hA0 q h) hA0 (fun r u t H1 locs1 ht hvm hp hB hz hk hS1 => ?_)
      have q := hp hsuf hvl ⟨trivial, hvd n⟩ (hB.2.trans h21) H1 locs1 lsA hlh ⟨by rw [← ht]; exact hB.1, jaHp.addr hhp.2⟩ hS1
      rw [hn] at q
      exact q
    · exact hX _ _ _ _ h ⟨n0, hn0⟩ hvl hvs h21 H locs lsA hlh hhp hS
  | invokestatic idx =>
    have key : ∀ (n rk : Nat), jaD cc pc (.invokestatic idx) 3 = true → jaCkS own idx a0 n rk = true → (Nat.ble (jaCat (st.drop n)) 8 && Nat.ble n st.length) = true → ∀ Q' : jaQ, Γ a0 (st.take n).reverse σ Q' →
        ∃ a1 : Array Value, va_Run p l e R s m args below meth c H locs cells slots 0 0 (F0 m pc lsA (st.map (jaTr an sv))) ((st.drop n).map (jaTr an sv)) (jaQc D dA an (jaRt a0) (σ 21) Q' a1) (jaA0 an) := by
      intro n rk hd hck hg Q' hq
      have hd := jaD_ok hd
      simp only [Bool.and_eq_true] at hg
      obtain ⟨hg2, hg3⟩ := hg
      have hg2 := Nat.le_of_ble_eq_true hg2
      have hg3 := Nat.le_of_ble_eq_true hg3
      simp only [jaCkS, Bool.and_eq_true] at hck
      obtain ⟨⟨⟨⟨⟨hy, hst⟩, hnp⟩, hrk⟩, hmx⟩, hlk⟩ := hck
      have hy : a0 < 303 := Nat.le_of_ble_eq_true hy
      have hnp := of_decide_eq_true hnp
      have hmx := Nat.le_of_ble_eq_true hmx
      have hargs := hΓ a0 (st.take n).reverse σ Q' hy (jaVs_mem fun v hv => jaVs_all hvs v (List.mem_of_mem_take (List.mem_reverse.mp hv))) hq
      have hlen2 : (st.take n).reverse.length = n := by rw [List.length_reverse, List.length_take]; omega
      have hyc := (jaY_mem hy)
      have hTB : ∀ w ∈ jaTB, w.before args s = true := fun w hw => hts w (List.mem_filter.mp hw).1 (List.mem_filter.mp hw).2
      have w0 : Jvm.Cond.static (jaY a0).1 ∈ lw_tbl := by
        have := jaY_ok0 _ hyc
        rw [jaYw0, hst] at this
        exact this
      have w2 : Jvm.Cond.initialized (jaY a0).1.cls ∈ lw_tbl := jaY_ok2 _ hyc
      have hR : (jaRm d).frames + 1 ≤ R.frames ∧ 8 + ((jaY a0).2.2.1 + 11) + (jaRm d).locals ≤ R.locals := ⟨hRf, by show 8 + ((jaY a0).2.2.1 + 11) + 64 * d ≤ R.locals; omega⟩
      have hPV : PreS s H (va_Pc ((st.take n).reverse.map (jaTr an sv)) (jaPre D dA an sv σ)) ((st.take n).reverse.map (jaTr an sv)) := ⟨jaPre_blind, fun U hU hW => ⟨rfl, jaPre_at hE hA0 hhp hS hU hW⟩⟩
      have hstk : (F0 m pc lsA (st.map (jaTr an sv))).stack = ((st.take n).reverse.map (jaTr an sv)).reverse ++ (st.drop n).map (jaTr an sv) := by
        show st.map (jaTr an sv) = _
        rw [List.map_reverse, List.reverse_reverse, ← List.map_append, List.take_append_drop]
      have hWc : 2 * (F0 m pc lsA (st.map (jaTr an sv))).monitorRoom + (((st.drop n).map (jaTr an sv)).map fun v => v.category).sum ≤ 8 := by
        have := jaCats (an := an) hs (st.drop n)
        show 2 * 0 + _ ≤ 8
        omega
      have hlk := jaHas3_in hlk
      have w3 : Jvm.Cond.methodLink (jaN "" jaOn own) idx (jaY a0).1 ∈ lw_tbl := jaOk_in jaWM_ok _ hlk
      have hT : GoodIn jaTB (va_wsS (jaN "" jaOn own) idx (jaY a0).1 (jaWds a0)) := by
        intro w hw
        rcases List.mem_append.mp hw with hw | hw
        · simp only [List.mem_cons, List.not_mem_nil, or_false] at hw
          rcases hw with rfl | rfl | rfl
          · exact ⟨jaTB_in w3 rfl, good_of_word rfl⟩
          · exact ⟨jaTB_in w0 rfl, good_of_word rfl⟩
          · exact ⟨jaTB_in w2 rfl, good_of_word rfl⟩
        · exact jaWds_good hy w hw
      have cw := va_cwS (R := R) n hTB hT rfl rfl rfl ⟨(jaY_mh a0 hy).1, (jaY_mh a0 hy).2, hnp⟩ hR
      exact ⟨((st.take n).reverse.map (jaTr an sv)).toArray, va_runS (As := (st.take n).reverse.map (jaTr an sv)) (rest := (st.drop n).map (jaTr an sv)) ⟨hx, hb, hml, hown, hTB⟩ hargs cw hPV rfl (by rw [List.length_map]; exact hlen2) hlh.2.1 hstk hWc hd ⟨hcl, hsl⟩⟩
    have hrkV : ∀ {n rk : Nat}, jaCkS own idx a0 n rk = true → jaRk a0 rk = true := by
      intro n rk hck
      simp only [jaCkS, Bool.and_eq_true] at hck
      exact hck.1.1.2
    have hvd : ∀ n : Nat, jaVs (st.drop n) := fun n => jaVs_mem fun v hv => jaVs_all hvs v (List.mem_of_mem_drop hv)
    dsimp only [jaStep] at h
    split at h
    · rename_i n
      obtain ⟨hg, h'⟩ := jaBif_elim h
      simp only [jaCk1, Bool.and_eq_true] at hc
      have hn : jaPc is = pc + 3 := Nat.eq_of_beq_eq_true hc.1.2
      obtain ⟨a1, hrun⟩ := key n 0 hc.1.1 hc.2 hg _ h'
      rw [jaQc_v (hrkV hc.2)] at hrun
      refine va_callv hrun hS (fun q _ h => hA0 q h) hA0 (fun u t H1 locs1 ht hvm hp hB hz hk hS1 => ?_)
      have q := hp hsuf hvl (hvd n) (hB.2.trans h21) H1 locs1 lsA hlh ⟨by rw [← ht]; exact hB.1, jaHp.addr hhp.2⟩ hS1
      rw [hn] at q
      exact q
    · rename_i n
      obtain ⟨hg, h'⟩ := jaBif_elim h
      simp only [jaCk1, Bool.and_eq_true] at hc
      have hn : jaPc is = pc + 3 := Nat.eq_of_beq_eq_true hc.1.2
      obtain ⟨a1, hrun⟩ := key n 1 hc.1.1 hc.2 hg _ h'
      rw [jaQc_i (hrkV hc.2)] at hrun
      refine va_calli hrun hS (fun q _ h => hA0 q h) hA0 (fun r u t H1 locs1 ht hvm hp hB hz hk hS1 => ?_)
      have q := hp hsuf hvl ⟨trivial, hvd n⟩ (hB.2.trans h21) H1 locs1 lsA hlh ⟨by rw [← ht]; exact hB.1, jaHp.addr hhp.2⟩ hS1
      rw [hn] at q
      exact q
    · rename_i n
      obtain ⟨hg, h'⟩ := jaBif_elim h
      simp only [jaCk1, Bool.and_eq_true] at hc
      have hn : jaPc is = pc + 3 := Nat.eq_of_beq_eq_true hc.1.2
      obtain ⟨a1, hrun⟩ := key n 2 hc.1.1 hc.2 hg _ h'
      rw [jaQc_l (hrkV hc.2)] at hrun
      refine va_calll hrun hS (fun q _ h => hA0 q h) hA0 (fun r u t H1 locs1 ht hvm hp hB hz hk hS1 => ?_)
      have q := hp hsuf hvl ⟨trivial, hvd n⟩ (hB.2.trans h21) H1 locs1 lsA hlh ⟨by rw [← ht]; exact hB.1, jaHp.addr hhp.2⟩ hS1
      rw [hn] at q
      exact q
    · exact hX _ _ _ _ h ⟨n0, hn0⟩ hvl hvs h21 H locs lsA hlh hhp hS
  | _ => exact hX _ _ _ _ h ⟨n0, hn0⟩ hvl hvs h21 H locs lsA hlh hhp hS
end
