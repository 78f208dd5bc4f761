/-! the machine's heap as a store; what stays while it runs; locals -/
def jaS0 : String := ";<=>+-()."
def jaS1 : String := "site key copy first last epoch link need at put check crash tick or and not waiting going done retried stopped ready wide reads writes from place tries trans "
def jaBy : List (List Int32) := jaStr.map fun l => l.map Int32.ofNat
def jaNestW : Jvm.Cond := .methodLinkNest "AgreedInput$State" 163 ⟨"AgreedInput$Entries", "conflict", "(II)Z"⟩ "AgreedInput"
def jaAd (an : jaR → Nat) (sv : Value) (r : jaR) : Value := bif Nat.beq r.1 104 then sv else .ref (an r)
def jaTr (an : jaR → Nat) (sv : Value) : jaV → Value
  | .inl x => .int x
  | .inr (.inl x) => .long x
  | .inr (.inr r) => jaAd an sv r
def jaTys (dA : Nat → ClassId) : List (ClassId × FieldType) := [(dA 0, .int), (dA 1, .long), (dA 2, .boolean), (dA 3, .byte), (dA 4, .object "AgreedInput$Copy"), (dA 5, .object "AgreedInput$Sentence"), (dA 6, .object "AgreedInput$State")]
def jaEnv (D : va_G) (dA : Nat → ClassId) (an : jaR → Nat) (sv : Value) (A : Nat → Prop) (U : State) (H : Heap) : Prop :=
  va_K D jaCl (jaTys dA) U ∧ va_Nw jaNestW U ∧ vk_R "AgreedInput$Reader" 50 jaS0 (an (100, 23, 0)) U ∧ vk_R "AgreedInput$Reader" 68 jaS1 (an (102, 24, 0)) U ∧
  va_Z "java/lang/String" "COMPACT_STRINGS" "Z" (.int 1) A U H ∧ va_Z "jdk/internal/util/Preconditions" "SIOOBE_FORMATTER" "Ljava/util/function/BiFunction;" sv A U H ∧
  vk_S 2 [9, 158] jaBy (fun i => if i = 0 then an (100, 23, 0) else an (102, 24, 0)) (fun i => if i = 0 then an (101, 23, 0) else an (103, 24, 0)) A U H
theorem jaEnv.alike {D : va_G} {dA : Nat → ClassId} {an : jaR → Nat} {sv : Value} {A : Nat → Prop} {u U : State} {H : Heap} (hW : u.WarmedH U.vm) (h : jaEnv D dA an sv A u H) : jaEnv D dA an sv A U H := by
  obtain ⟨h1, h2, h3, h4, h5, h6, h7⟩ := h
  exact ⟨va_K.moved hW.alike h1, va_Nw.warmM hW h2, vk_R.warm hW h3, vk_R.warm hW h4, va_Z.moved hW.alike h5, va_Z.moved hW.alike h6, vk_S.moved hW.alike h7⟩
theorem jaEnv.same {D : va_G} {dA : Nat → ClassId} {an : jaR → Nat} {sv : Value} {A : Nat → Prop} {u U : State} {H : Heap} (hv : U.vm = u.vm) (h : jaEnv D dA an sv A u H) : jaEnv D dA an sv A U H := by
  have ha : u.vm.Alike U.vm := by rw [hv]; exact Vm.Alike.refl _
  obtain ⟨h1, h2, h3, h4, h5, h6, h7⟩ := h
  exact ⟨va_K.moved ha h1, va_Nw.same rfl hv.symm h2, vk_R.same hv h3, vk_R.same hv h4, va_Z.moved ha h5, va_Z.moved ha h6, vk_S.moved ha h7⟩
theorem jaEnv.kept {D : va_G} {dA : Nat → ClassId} {an : jaR → Nat} {sv : Value} {A : Nat → Prop} {U : State} {H H1 : Heap} (h : jaEnv D dA an sv A U H) (hq : ∀ a : Nat, a < H.size → ¬ A a → H1[a]? = H[a]?) : jaEnv D dA an sv A U H1 := by
  obtain ⟨h1, h2, h3, h4, h5, h6, h7⟩ := h
  exact ⟨h1, h2, h3, h4, h5.kept hq, h6.kept hq, h7.kept hq⟩
theorem jaEnv.narrow {D : va_G} {dA : Nat → ClassId} {an : jaR → Nat} {sv : Value} {A B : Nat → Prop} {U : State} {H : Heap} (h : jaEnv D dA an sv A U H) (hAB : ∀ q, B q → A q) : jaEnv D dA an sv B U H := by
  obtain ⟨h1, h2, h3, h4, h5, h6, h7⟩ := h
  exact ⟨h1, h2, h3, h4, h5.narrow hAB, h6.narrow hAB, h7.narrow hAB⟩
/-- what a field holds, an object, an array -/
def jaFv (an : jaR → Nat) (σ : jaT) (o k c i : Nat) (t : Nat × Nat × Nat) : Value := match t with
  | (1, _) => .long ((σ k).2 o c i)
  | (3, o', ka) => .ref (an (o', k + ka, c))
  | _ => .int ((σ k).1 o c i)
def jaFvs (an : jaR → Nat) (σ : jaT) (o k c : Nat) : Nat → List (Nat × Nat × Nat) → List Value
  | _, [] => []
  | i, t :: ts => jaFv an σ o k c i t :: jaFvs an σ o k c (i + 1) ts
def jaArE (dA : Nat → ClassId) (an : jaR → Nat) (σ : jaT) (o k c : Nat) : jaA → va_E
  | (1, n, _) => .inl (dA 1, n, .inr (.inl fun j => (σ k).2 o c j))
  | (2, n, _) => .inl (dA 2, n, .inl fun j => (σ k).1 o c j)
  | (3, n, _) => .inl (dA 3, n, .inl fun j => (σ k).1 o c j)
  | (4, n, o', a, fb, fd) => .inl (dA (if o' = 50 then 4 else if o' = 20 then 5 else 6), n, .inr (.inr (.inr (.inr fun j => some (an (o', k + (a + (bif fb then j else 0)), bif fd then j else 0))))))
  | (_, n, _) => .inl (dA 0, n, .inl fun j => (σ k).1 o c j)
def jaCell (dA : Nat → ClassId) (an : jaR → Nat) (σ : jaT) (r : jaR) : va_E := match jaN (99, []) jaOb r.1 with
  | (ci, t :: ts) => .inr (ci, jaFvs an σ r.1 r.2.1 r.2.2 0 (t :: ts))
  | (_, []) => jaArE dA an σ r.1 r.2.1 r.2.2 (jaN (5, 0, 0, 0, false, false) jaAr r.1)
def jaWs (dA : Nat → ClassId) (an : jaR → Nat) (σ : jaT) : va_W := jaRefs.map fun r => (an r, jaCell dA an σ r)
def jaHp (D : va_G) (dA : Nat → ClassId) (an : jaR → Nat) (A : Nat → Prop) (σ : jaT) (H : Heap) : Prop := va_P D jaCl (jaWs dA an σ) H ∧ va_D A (jaWs dA an σ)
theorem jaWs_get {dA : Nat → ClassId} {an : jaR → Nat} {σ : jaT} {r : jaR} (h : r ∈ jaRefs) : ∃ q0 : Nat, jaRefs[q0]? = some r ∧ (jaWs dA an σ)[q0]? = some (an r, jaCell dA an σ r) := by
  obtain ⟨q0, hq⟩ := List.getElem?_of_mem h
  exact ⟨q0, hq, by rw [jaWs, List.getElem?_map, hq]; rfl⟩
theorem jaFvs_congr {an : jaR → Nat} {σ τ : jaT} {o k c : Nat} (h1 : ∀ i, (σ k).1 o c i = (τ k).1 o c i) (h2 : ∀ i, (σ k).2 o c i = (τ k).2 o c i) : ∀ (ts : List (Nat × Nat × Nat)) (i : Nat), jaFvs an σ o k c i ts = jaFvs an τ o k c i ts
  | [], _ => rfl
  | t :: ts, i => by
    rw [jaFvs, jaFvs, jaFvs_congr h1 h2 ts (i + 1)]
    congr 1
    obtain ⟨x, y, z⟩ := t
    unfold jaFv
    split <;> simp [h1, h2]
theorem jaCell_congr {dA : Nat → ClassId} {an : jaR → Nat} {σ τ : jaT} {r : jaR} (h1 : ∀ i, (σ r.2.1).1 r.1 r.2.2 i = (τ r.2.1).1 r.1 r.2.2 i) (h2 : ∀ i, (σ r.2.1).2 r.1 r.2.2 i = (τ r.2.1).2 r.1 r.2.2 i) : jaCell dA an σ r = jaCell dA an τ r := by
  unfold jaCell
  split
  · rw [jaFvs_congr h1 h2]
  · unfold jaArE
    split <;> simp [h1, h2]
theorem jaWs_set {A : Nat → Prop} {dA : Nat → ClassId} {an : jaR → Nat} {σ τ : jaT} {r : jaR} {q0 : Nat} {e : va_E} (hD : va_D A (jaWs dA an σ)) (hq : jaRefs[q0]? = some r) (he : e = jaCell dA an τ r) (ho : ∀ r', r' ∈ jaRefs → r' ≠ r → jaCell dA an σ r' = jaCell dA an τ r') : (jaWs dA an σ).set q0 (an r, e) = jaWs dA an τ := by
  subst he
  have hl : q0 < (jaWs dA an σ).length := by
    have := (List.getElem?_eq_some_iff.mp hq).1
    simpa [jaWs] using this
  refine List.ext_getElem? fun i => ?_
  by_cases hi : i = q0
  · subst hi
    rw [List.getElem?_set_self hl, jaWs, List.getElem?_map, hq]
    rfl
  · rw [List.getElem?_set_ne (Ne.symm hi)]
    simp only [jaWs, List.getElem?_map]
    cases hr : jaRefs[i]? with
    | none => rfl
    | some r' =>
      have hne : r' ≠ r := by
        intro e
        subst e
        exact hi (hD.1 i q0 (an r', jaCell dA an σ r') (an r', jaCell dA an σ r') (by rw [jaWs, List.getElem?_map, hr]; rfl) (by rw [jaWs, List.getElem?_map, hq]; rfl) rfl)
      simp only [Option.map_some]
      rw [ho r' (List.mem_of_getElem? hr) hne]
theorem jaU_other1 {σ : jaT} {o k c j : Nat} {v : Int32} {r : jaR} (h : r ≠ (o, k, c)) (i : Nat) : (jaU σ k (jaUI (σ k) o c j v) r.2.1).1 r.1 r.2.2 i = (σ r.2.1).1 r.1 r.2.2 i := by
  obtain ⟨o', k', c'⟩ := r
  simp only [jaU, jaUI]
  by_cases hk : k' = k
  · subst hk
    rw [if_pos rfl]
    show (if o' = o ∧ c' = c ∧ i = j then v else _) = _
    rw [if_neg]
    rintro ⟨rfl, rfl, -⟩
    exact h rfl
  · rw [if_neg hk]
theorem jaU_other2 {σ : jaT} {o k c j : Nat} {v : Int32} {r : jaR} (i : Nat) : (jaU σ k (jaUI (σ k) o c j v) r.2.1).2 r.1 r.2.2 i = (σ r.2.1).2 r.1 r.2.2 i := by
  obtain ⟨o', k', c'⟩ := r
  simp only [jaU, jaUI]
  by_cases hk : k' = k
  · subst hk
    rw [if_pos rfl]
  · rw [if_neg hk]
theorem jaU_otherL1 {σ : jaT} {o k c j : Nat} {v : Int64} {r : jaR} (i : Nat) : (jaU σ k (jaUL (σ k) o c j v) r.2.1).1 r.1 r.2.2 i = (σ r.2.1).1 r.1 r.2.2 i := by
  obtain ⟨o', k', c'⟩ := r
  simp only [jaU, jaUL]
  by_cases hk : k' = k
  · subst hk
    rw [if_pos rfl]
  · rw [if_neg hk]
theorem jaU_otherL2 {σ : jaT} {o k c j : Nat} {v : Int64} {r : jaR} (h : r ≠ (o, k, c)) (i : Nat) : (jaU σ k (jaUL (σ k) o c j v) r.2.1).2 r.1 r.2.2 i = (σ r.2.1).2 r.1 r.2.2 i := by
  obtain ⟨o', k', c'⟩ := r
  simp only [jaU, jaUL]
  by_cases hk : k' = k
  · subst hk
    rw [if_pos rfl]
    show (if o' = o ∧ c' = c ∧ i = j then v else _) = _
    rw [if_neg]
    rintro ⟨rfl, rfl, -⟩
    exact h rfl
  · rw [if_neg hk]
theorem jaU_at1 {σ : jaT} {o k c j : Nat} {v : Int32} (i : Nat) : (jaU σ k (jaUI (σ k) o c j v) k).1 o c i = if i = j then v else (σ k).1 o c i := by
  simp [jaU, jaUI]
theorem jaU_at2 {σ : jaT} {o k c j : Nat} {v : Int64} (i : Nat) : (jaU σ k (jaUL (σ k) o c j v) k).2 o c i = if i = j then v else (σ k).2 o c i := by
  simp [jaU, jaUL]
theorem jaFvs_len (an : jaR → Nat) (σ : jaT) (o k c : Nat) : ∀ (ts : List (Nat × Nat × Nat)) (i : Nat), (jaFvs an σ o k c i ts).length = ts.length
  | [], _ => rfl
  | t :: ts, i => by rw [jaFvs, List.length_cons, List.length_cons, jaFvs_len an σ o k c ts (i + 1)]
theorem jaFvs_get (an : jaR → Nat) (σ : jaT) (o k c : Nat) : ∀ (ts : List (Nat × Nat × Nat)) (i a : Nat) (t : Nat × Nat × Nat), ts[a]? = some t → (jaFvs an σ o k c i ts)[a]? = some (jaFv an σ o k c (i + a) t)
  | [], _, _, _, h => by simp at h
  | t :: ts, i, 0, t', h => by
    simp at h
    subst h
    rfl
  | t :: ts, i, a + 1, t', h => by
    rw [jaFvs, List.getElem?_cons_succ, jaFvs_get an σ o k c ts (i + 1) a t' (by simpa using h)]
    rw [show i + 1 + a = i + (a + 1) by omega]
theorem jaFvs_put1 {an : jaR → Nat} {σ : jaT} {o k c : Nat} (v : Int32) : ∀ (ts : List (Nat × Nat × Nat)) (i a j : Nat) (t : Nat × Nat × Nat), j = i + a → ts[a]? = some t → (t.1 = 0 ∨ t.1 = 2) → (jaFvs an σ o k c i ts).set a (.int v) = jaFvs an (jaU σ k (jaUI (σ k) o c j v)) o k c i ts
  | [], _, _, _, _, _, h, _ => by simp at h
  | t :: ts, i, 0, j, t', hj, h, ht => by
    simp at h hj
    subst h
    subst hj
    rw [jaFvs, jaFvs, List.set_cons_zero]
    have e1 : jaFv an (jaU σ k (jaUI (σ k) o c j v)) o k c j t = .int v := by
      obtain ⟨x, y, z⟩ := t
      rcases ht with rfl | rfl <;> simp [jaFv, jaU_at1]
    rw [e1]
    congr 1
    have key : ∀ (us : List (Nat × Nat × Nat)) (m : Nat), j < m → jaFvs an σ o k c m us = jaFvs an (jaU σ k (jaUI (σ k) o c j v)) o k c m us := by
      intro us
      induction us with
      | nil => intro m _; rfl
      | cons u us ih =>
        intro m hm
        rw [jaFvs, jaFvs, ih (m + 1) (by omega)]
        congr 1
        obtain ⟨x, y, z⟩ := u
        have e2 := jaU_other2 (σ := σ) (o := o) (k := k) (c := c) (j := j) (v := v) (r := (o, k, c)) m
        have e3 := jaU_at1 (σ := σ) (o := o) (k := k) (c := c) (j := j) (v := v) m
        rw [if_neg (by omega)] at e3
        unfold jaFv
        split
        · rw [show (jaU σ k (jaUI (σ k) o c j v) k).2 o c m = (σ k).2 o c m from e2]
        · rfl
        · rw [e3]
    exact key ts (j + 1) (by omega)
  | t :: ts, i, a + 1, j, t', hj, h, ht => by
    rw [jaFvs, jaFvs, List.set_cons_succ, jaFvs_put1 v ts (i + 1) a j t' (by omega) (by simpa using h) ht]
    congr 1
    obtain ⟨x, y, z⟩ := t
    have e2 := jaU_other2 (σ := σ) (o := o) (k := k) (c := c) (j := j) (v := v) (r := (o, k, c)) i
    have e3 := jaU_at1 (σ := σ) (o := o) (k := k) (c := c) (j := j) (v := v) i
    rw [if_neg (by omega)] at e3
    unfold jaFv
    split
    · rw [show (jaU σ k (jaUI (σ k) o c j v) k).2 o c i = (σ k).2 o c i from e2]
    · rfl
    · rw [e3]
theorem jaFvs_put2 {an : jaR → Nat} {σ : jaT} {o k c : Nat} (v : Int64) : ∀ (ts : List (Nat × Nat × Nat)) (i a j : Nat) (t : Nat × Nat × Nat), j = i + a → ts[a]? = some t → t.1 = 1 → (jaFvs an σ o k c i ts).set a (.long v) = jaFvs an (jaU σ k (jaUL (σ k) o c j v)) o k c i ts
  | [], _, _, _, _, _, h, _ => by simp at h
  | t :: ts, i, 0, j, t', hj, h, ht => by
    simp at h hj
    subst h
    subst hj
    rw [jaFvs, jaFvs, List.set_cons_zero]
    have e1 : jaFv an (jaU σ k (jaUL (σ k) o c j v)) o k c j t = .long v := by
      obtain ⟨x, y, z⟩ := t
      simp at ht
      subst ht
      simp [jaFv, jaU_at2]
    rw [e1]
    congr 1
    have key : ∀ (us : List (Nat × Nat × Nat)) (m : Nat), j < m → jaFvs an σ o k c m us = jaFvs an (jaU σ k (jaUL (σ k) o c j v)) o k c m us := by
      intro us
      induction us with
      | nil => intro m _; rfl
      | cons u us ih =>
        intro m hm
        rw [jaFvs, jaFvs, ih (m + 1) (by omega)]
        congr 1
        obtain ⟨x, y, z⟩ := u
        have e2 := jaU_otherL1 (σ := σ) (o := o) (k := k) (c := c) (j := j) (v := v) (r := (o, k, c)) m
        have e3 := jaU_at2 (σ := σ) (o := o) (k := k) (c := c) (j := j) (v := v) m
        rw [if_neg (by omega)] at e3
        unfold jaFv
        split
        · rw [e3]
        · rfl
        · rw [show (jaU σ k (jaUL (σ k) o c j v) k).1 o c m = (σ k).1 o c m from e2]
    exact key ts (j + 1) (by omega)
  | t :: ts, i, a + 1, j, t', hj, h, ht => by
    rw [jaFvs, jaFvs, List.set_cons_succ, jaFvs_put2 v ts (i + 1) a j t' (by omega) (by simpa using h) ht]
    congr 1
    obtain ⟨x, y, z⟩ := t
    have e2 := jaU_otherL1 (σ := σ) (o := o) (k := k) (c := c) (j := j) (v := v) (r := (o, k, c)) i
    have e3 := jaU_at2 (σ := σ) (o := o) (k := k) (c := c) (j := j) (v := v) i
    rw [if_neg (by omega)] at e3
    unfold jaFv
    split
    · rw [e3]
    · rfl
    · rw [show (jaU σ k (jaUL (σ k) o c j v) k).1 o c i = (σ k).1 o c i from e2]
/-- the locals -/
def jaLh (an : jaR → Nat) (sv : Value) (ls : Array Slot) (nL : Nat) (pl : List (Option jaV)) : Prop := pl.length = nL ∧ ls.size = nL ∧ lv_wf ls ∧ ∀ (i : Nat) (v : jaV), pl[i]? = some (some v) → ls[i]? = some (.val (jaTr an sv v))
theorem jaN_get {pl : List (Option jaV)} : ∀ {n : Nat} {v : jaV}, jaN none pl n = some v → pl[n]? = some (some v) := by
  induction pl with
  | nil => intro n v h; simp [jaN] at h
  | cons a t ih =>
    intro n v h
    cases n with
    | zero => simp only [jaN] at h; simp [h]
    | succ n => simp only [jaN] at h; simpa using ih h
def jaIsL : jaV → Bool
  | .inr (.inl _) => true
  | _ => false
theorem jaDl_some {u : Option jaV} {w : jaV} (h : jaDl u = some w) : u = some w ∧ jaIsL w = false := by
  unfold jaDl at h
  split at h
  · cases h
  · rename_i u' hn
    subst h
    refine ⟨rfl, ?_⟩
    unfold jaIsL
    split
    · exact absurd rfl (hn _)
    · rfl
theorem jaSet_len : ∀ (pl : List (Option jaV)) (i : Nat) (v : jaV), i < pl.length → (jaSet pl i v).length = pl.length
  | [], _, _, h => by simp at h
  | _ :: t, 0, v, _ => rfl
  | a :: _ :: t, 1, v, _ => rfl
  | [_], 1, _, h => by simp at h
  | a :: t, n + 2, v, h => by
    simp only [jaSet, List.length_cons]
    rw [jaSet_len t (n + 1) v (by simp at h; omega)]
theorem jaSet_get : ∀ (pl : List (Option jaV)) (i : Nat) (v : jaV), i < pl.length → ∀ (j : Nat) (u : jaV), (jaSet pl i v)[j]? = some (some u) → (j = i ∧ u = v) ∨ (j ≠ i ∧ pl[j]? = some (some u) ∧ (j + 1 = i → jaIsL u = false))
  | [], _, _, h, _, _, _ => by simp at h
  | a :: t, 0, v, _, j, u, h => by
    cases j with
    | zero => simp [jaSet] at h; exact Or.inl ⟨rfl, h.symm⟩
    | succ j => simp [jaSet] at h; exact Or.inr ⟨by omega, by simpa using h, by omega⟩
  | a :: b :: t, 1, v, _, j, u, h => by
    match j, h with
    | 0, h =>
      simp [jaSet] at h
      obtain ⟨e1, e2⟩ := jaDl_some h
      exact Or.inr ⟨by omega, by simp [e1], fun _ => e2⟩
    | 1, h => simp [jaSet] at h; exact Or.inl ⟨rfl, h.symm⟩
    | j + 2, h => simp [jaSet] at h; exact Or.inr ⟨by omega, by simpa using h, by omega⟩
  | [_], 1, _, h, _, _, _ => by simp at h
  | a :: t, n + 2, v, hl, j, u, h => by
    cases j with
    | zero => simp [jaSet] at h; exact Or.inr ⟨by omega, by simp [h], by omega⟩
    | succ j =>
      simp only [jaSet, List.getElem?_cons_succ] at h
      rcases jaSet_get t (n + 1) v (by simp at hl; omega) j u h with ⟨e1, e2⟩ | ⟨e1, e2, e3⟩
      · exact Or.inl ⟨by omega, e2⟩
      · exact Or.inr ⟨by omega, by simpa using e2, fun q => e3 (by omega)⟩
theorem jaSetL_len : ∀ (pl : List (Option jaV)) (i : Nat) (v : Int64), i + 1 < pl.length → (jaSetL pl i v).length = pl.length
  | [], _, _, h => by simp at h
  | [_], i, _, h => by simp at h
  | _ :: _ :: t, 0, v, _ => rfl
  | [a, b], 1, v, h => by simp at h
  | a :: _ :: _ :: t, 1, v, _ => rfl
  | a :: b :: t, n + 2, v, h => by
    simp only [jaSetL]
    rw [List.length_cons, jaSetL_len (b :: t) (n + 1) v (by simp at h ⊢; omega)]
    rfl
theorem jaSetL_get : ∀ (pl : List (Option jaV)) (i : Nat) (v : Int64), i + 1 < pl.length → ∀ (j : Nat) (u : jaV), (jaSetL pl i v)[j]? = some (some u) → (j = i ∧ u = .inr (.inl v)) ∨ (j ≠ i ∧ j ≠ i + 1 ∧ pl[j]? = some (some u) ∧ (j + 1 = i → jaIsL u = false))
  | [], _, _, h, _, _, _ => by simp at h
  | [_], i, _, h, _, _, _ => by simp at h
  | a :: b :: t, 0, v, _, j, u, h => by
    match j, h with
    | 0, h => simp [jaSetL] at h; exact Or.inl ⟨rfl, h.symm⟩
    | 1, h => simp [jaSetL] at h
    | j + 2, h => simp [jaSetL] at h; exact Or.inr ⟨by omega, by omega, by simpa using h, by omega⟩
  | [a, b], 1, v, h, _, _, _ => by simp at h
  | a :: b :: c :: t, 1, v, _, j, u, h => by
    match j, h with
    | 0, h =>
      simp [jaSetL] at h
      obtain ⟨e1, e2⟩ := jaDl_some h
      exact Or.inr ⟨by omega, by omega, by simp [e1], fun _ => e2⟩
    | 1, h => simp [jaSetL] at h; exact Or.inl ⟨rfl, h.symm⟩
    | 2, h => simp [jaSetL] at h
    | j + 3, h => simp [jaSetL] at h; exact Or.inr ⟨by omega, by omega, by simpa using h, by omega⟩
  | a :: b :: t, n + 2, v, hl, j, u, h => by
    simp only [jaSetL] at h
    cases j with
    | zero => simp at h; exact Or.inr ⟨by omega, by omega, by simp [h], by omega⟩
    | succ j =>
      rw [List.getElem?_cons_succ] at h
      rcases jaSetL_get (b :: t) (n + 1) v (by simp at hl ⊢; omega) j u h with ⟨e1, e2⟩ | ⟨e1, e2, e3, e4⟩
      · exact Or.inl ⟨by omega, e2⟩
      · exact Or.inr ⟨by omega, by omega, by simpa using e3, fun q => e4 (by omega)⟩
def jaLv (an : jaR → Nat) (sv : Value) (pl : List (Option jaV)) : List (Nat × Value) := (List.range pl.length).filterMap fun i => match pl[i]? with
  | some (some v) => some (i, jaTr an sv v)
  | _ => none
theorem jaLv_mem {an : jaR → Nat} {sv : Value} {pl : List (Option jaV)} {i : Nat} {v : jaV} (h : pl[i]? = some (some v)) : (i, jaTr an sv v) ∈ jaLv an sv pl := by
  refine List.mem_filterMap.mpr ⟨i, List.mem_range.mpr (List.getElem?_eq_some_iff.mp h).1, ?_⟩
  rw [h]
theorem jaLh.has {an : jaR → Nat} {sv : Value} {ls : Array Slot} {nL : Nat} {pl : List (Option jaV)} (h : jaLh an sv ls nL pl) : lv_has ls nL (jaLv an sv pl) := by
  obtain ⟨h1, h2, h3, h4⟩ := h
  refine ⟨h2, h3, fun q hq => ?_⟩
  obtain ⟨i, -, hi⟩ := List.mem_filterMap.mp hq
  split at hi
  · rename_i v hv
    cases hi
    exact h4 i v hv
  · cases hi
theorem jaTr_cat {an : jaR → Nat} {sv : Value} (hs : sv = .null ∨ ∃ a, sv = .ref a) (u : jaV) : (jaTr an sv u).category = if jaIsL u then 2 else 1 := by
  rcases u with x | x | r
  · rfl
  · rfl
  · simp only [jaTr, jaAd, jaIsL]
    cases Nat.beq r.1 104
    · rfl
    · rcases hs with rfl | ⟨a, rfl⟩ <;> rfl
theorem jaLh.set {an : jaR → Nat} {sv : Value} (hs : sv = .null ∨ ∃ a, sv = .ref a) {ls' : Array Slot} {nL i : Nat} {pl : List (Option jaV)} {v : jaV} (hl : pl.length = nL) (hi : i < nL) (h : lv_has ls' nL ((i, jaTr an sv v) :: (jaLv an sv pl).filter (fun q => !(q.1 == i) && !(q.1 + 1 == i && q.2.category == 2)))) : jaLh an sv ls' nL (jaSet pl i v) := by
  obtain ⟨h1, h2, h3⟩ := h
  refine ⟨by rw [jaSet_len pl i v (by omega)]; exact hl, h1, h2, fun j u hj => ?_⟩
  rcases jaSet_get pl i v (by omega) j u hj with ⟨rfl, rfl⟩ | ⟨e1, e2, e3⟩
  · exact h3 _ List.mem_cons_self
  · refine h3 (j, jaTr an sv u) (List.mem_cons_of_mem _ (List.mem_filter.mpr ⟨jaLv_mem e2, ?_⟩))
    simp only [Bool.and_eq_true, Bool.not_eq_true', beq_eq_false_iff_ne, ne_eq, Bool.and_eq_false_iff]
    refine ⟨e1, ?_⟩
    by_cases q : j + 1 = i
    · right
      rw [jaTr_cat hs, e3 q]
      simp
    · exact Or.inl q
theorem jaLh.setL {an : jaR → Nat} {sv : Value} (hs : sv = .null ∨ ∃ a, sv = .ref a) {ls' : Array Slot} {nL i : Nat} {pl : List (Option jaV)} {v : Int64} (hl : pl.length = nL) (hi : i + 1 < nL) (h : lv_has ls' nL ((i, Value.long v) :: (jaLv an sv pl).filter (fun q => !(q.1 == i) && (!(q.1 == i + 1) && !(q.1 + 1 == i && q.2.category == 2))))) : jaLh an sv ls' nL (jaSetL pl i v) := by
  obtain ⟨h1, h2, h3⟩ := h
  refine ⟨by rw [jaSetL_len pl i v (by omega)]; exact hl, h1, h2, fun j u hj => ?_⟩
  rcases jaSetL_get pl i v (by omega) j u hj with ⟨rfl, rfl⟩ | ⟨e1, e0, e2, e3⟩
  · exact h3 _ List.mem_cons_self
  · refine h3 (j, jaTr an sv u) (List.mem_cons_of_mem _ (List.mem_filter.mpr ⟨jaLv_mem e2, ?_⟩))
    simp only [Bool.and_eq_true, Bool.not_eq_true', beq_eq_false_iff_ne, ne_eq, Bool.and_eq_false_iff]
    refine ⟨e1, e0, ?_⟩
    by_cases q : j + 1 = i
    · right
      rw [jaTr_cat hs, e3 q]
      simp
    · exact Or.inl q
