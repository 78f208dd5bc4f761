section
/-! what stays, at the law's entry -/
theorem jeI_0 : Jvm.Cond.instantiable "AgreedInput$Book" 4 ∈ lw_tbl := by decide +kernel
theorem jeI_1 : Jvm.Cond.instantiable "AgreedInput$Check" 9 ∈ lw_tbl := by decide +kernel
theorem jeI_2 : Jvm.Cond.instantiable "AgreedInput$Copy" 3 ∈ lw_tbl := by decide +kernel
theorem jeI_3 : Jvm.Cond.instantiable "AgreedInput$Entries" 11 ∈ lw_tbl := by decide +kernel
theorem jeI_4 : Jvm.Cond.instantiable "AgreedInput$Reader" 7 ∈ lw_tbl := by decide +kernel
theorem jeI_5 : Jvm.Cond.instantiable "AgreedInput$Scripts" 6 ∈ lw_tbl := by decide +kernel
theorem jeI_6 : Jvm.Cond.instantiable "AgreedInput$Search" 5 ∈ lw_tbl := by decide +kernel
theorem jeI_7 : Jvm.Cond.instantiable "AgreedInput$Sentence" 6 ∈ lw_tbl := by decide +kernel
theorem jeI_8 : Jvm.Cond.instantiable "AgreedInput$State" 9 ∈ lw_tbl := by decide +kernel
theorem jeI_9 : Jvm.Cond.instantiable "AgreedInput$World" 10 ∈ lw_tbl := by decide +kernel
theorem jeI_10 : Jvm.Cond.instantiable "AgreedInput" 19 ∈ lw_tbl := by decide +kernel
theorem jeI_11 : Jvm.Cond.instantiable "AgreedInputModel" 56 ∈ lw_tbl := by decide +kernel
theorem je_K1 {args : Array Value} {s : State} (hts : ∀ w ∈ lw_tbl, w.before args s = true) : ∃ D : va_G, ∀ (k : Nat) (q : vw_C), jaCl[k]? = some q → u_Kn s q.1 q.2.1 q.2.2 (D.1 k) (D.2 k) := by
  have h0 : ∀ k : Nat, ∃ q : ClassId × (Nat → Nat), ∀ w : vw_C, jaCl[k]? = some w → u_Kn s w.1 w.2.1 w.2.2 q.1 q.2 := by
    intro k
    match k with
    | 0 =>
      obtain ⟨a, b, h⟩ := u_known (T := jaT0) (N := 4) hts jaK0_ws (hts _ jeI_0)
      exact ⟨(a, b), fun w hw => by cases hw; exact h⟩
    | 1 =>
      obtain ⟨a, b, h⟩ := u_known (T := jaT1) (N := 9) hts jaK1_ws (hts _ jeI_1)
      exact ⟨(a, b), fun w hw => by cases hw; exact h⟩
    | 2 =>
      obtain ⟨a, b, h⟩ := u_known (T := jaT2) (N := 3) hts jaK2_ws (hts _ jeI_2)
      exact ⟨(a, b), fun w hw => by cases hw; exact h⟩
    | 3 =>
      obtain ⟨a, b, h⟩ := u_known (T := jaT3) (N := 11) hts jaK3_ws (hts _ jeI_3)
      exact ⟨(a, b), fun w hw => by cases hw; exact h⟩
    | 4 =>
      obtain ⟨a, b, h⟩ := u_known (T := jaT4) (N := 7) hts jaK4_ws (hts _ jeI_4)
      exact ⟨(a, b), fun w hw => by cases hw; exact h⟩
    | 5 =>
      obtain ⟨a, b, h⟩ := u_known (T := jaT5) (N := 6) hts jaK5_ws (hts _ jeI_5)
      exact ⟨(a, b), fun w hw => by cases hw; exact h⟩
    | 6 =>
      obtain ⟨a, b, h⟩ := u_known (T := jaT6) (N := 5) hts jaK6_ws (hts _ jeI_6)
      exact ⟨(a, b), fun w hw => by cases hw; exact h⟩
    | 7 =>
      obtain ⟨a, b, h⟩ := u_known (T := jaT7) (N := 6) hts jaK7_ws (hts _ jeI_7)
      exact ⟨(a, b), fun w hw => by cases hw; exact h⟩
    | 8 =>
      obtain ⟨a, b, h⟩ := u_known (T := jaT8) (N := 9) hts jaK8_ws (hts _ jeI_8)
      exact ⟨(a, b), fun w hw => by cases hw; exact h⟩
    | 9 =>
      obtain ⟨a, b, h⟩ := u_known (T := jaT9) (N := 10) hts jaK9_ws (hts _ jeI_9)
      exact ⟨(a, b), fun w hw => by cases hw; exact h⟩
    | 10 =>
      obtain ⟨a, b, h⟩ := u_known (T := jaT10) (N := 19) hts jaK10_ws (hts _ jeI_10)
      exact ⟨(a, b), fun w hw => by cases hw; exact h⟩
    | 11 =>
      obtain ⟨a, b, h⟩ := u_known (T := jaT11) (N := 56) hts jaK11_ws (hts _ jeI_11)
      exact ⟨(a, b), fun w hw => by cases hw; exact h⟩
    | k + 12 => exact ⟨(0, fun _ => 0), fun w hw => by cases hw⟩
  obtain ⟨f, hf⟩ := Classical.axiomOfChoice h0
  exact ⟨(fun k => (f k).1, fun k => (f k).2), fun k q hq => hf k q hq⟩
theorem je_prim {args : Array Value} {s : State} {ty : FieldType} (h : (Jvm.Cond.arrayClass ty).before args s = true) : ∃ cA : ClassId, ArrOfT s cA ty ∧ s.vm.findClass ("[" ++ ty.toString) = some cA := by
  obtain ⟨c, k, comp, h1, h2, h3⟩ := Cond.arrayClass_spec h
  exact ⟨c, fun n z => ⟨(fun k h => by cases h), k, h2, comp, h3⟩, h1⟩
theorem je_obj {args : Array Value} {s : State} {C : String} (h : (Jvm.Cond.arrayOver (.object C)).before args s = true) : ∃ cA : ClassId, ArrOfT s cA (.object C) ∧ va_RA s cA (.object C) := by
  obtain ⟨comp, c, k, h1, -, h2, h3, h4⟩ := Cond.arrayOver_spec h
  exact ⟨c, fun n z => ⟨(fun k h => by cases h), k, h2, comp, h3⟩, k, comp, h2, h3, h1, h4⟩
theorem je_aw : Jvm.Cond.arrayClass .int ∈ lw_tbl ∧ Jvm.Cond.arrayClass .long ∈ lw_tbl ∧ Jvm.Cond.arrayClass .boolean ∈ lw_tbl ∧ Jvm.Cond.arrayClass .byte ∈ lw_tbl ∧ Jvm.Cond.arrayOver (.object "AgreedInput$Copy") ∈ lw_tbl ∧ Jvm.Cond.arrayOver (.object "AgreedInput$Sentence") ∈ lw_tbl ∧ Jvm.Cond.arrayOver (.object "AgreedInput$State") ∈ lw_tbl := by decide +kernel
theorem je_K {args : Array Value} {s : State} (hts : ∀ w ∈ lw_tbl, w.before args s = true) : ∃ (D : va_G) (dA : Nat → ClassId), va_K D jaCl (jaTys dA) s := by
  obtain ⟨D, hD⟩ := je_K1 hts
  obtain ⟨w0, w1, w2, w3, w4, w5, w6⟩ := je_aw
  obtain ⟨c0, a0, b0⟩ := je_prim (hts _ w0)
  obtain ⟨c1, a1, b1⟩ := je_prim (hts _ w1)
  obtain ⟨c2, a2, b2⟩ := je_prim (hts _ w2)
  obtain ⟨c3, a3, b3⟩ := je_prim (hts _ w3)
  obtain ⟨c4, a4, b4⟩ := je_obj (hts _ w4)
  obtain ⟨c5, a5, b5⟩ := je_obj (hts _ w5)
  obtain ⟨c6, a6, b6⟩ := je_obj (hts _ w6)
  refine ⟨D, fun k => jaN c0 [c0, c1, c2, c3, c4, c5, c6] k, hD, fun k q hk => ?_⟩
  match k, hk with
  | 0, hk => cases hk; exact ⟨a0, b0⟩
  | 1, hk => cases hk; exact ⟨a1, b1⟩
  | 2, hk => cases hk; exact ⟨a2, b2⟩
  | 3, hk => cases hk; exact ⟨a3, b3⟩
  | 4, hk => cases hk; exact ⟨a4, b4⟩
  | 5, hk => cases hk; exact ⟨a5, b5⟩
  | 6, hk => cases hk; exact ⟨a6, b6⟩
  | k + 7, hk => cases hk
def jeFl : List Jvm.Cond := flatC (Jvm.Cond.and given_1 narrow_1)
def jeTm (i : Nat) : Jvm.Term := if i = 0 then .string "AgreedInput$Reader" 50 else .string "AgreedInput$Reader" 68
def jeS (i n : Nat) : Bool := decide (Jvm.Cond.exactly (jeTm i) "java/lang/String" ∈ jeFl) && decide (Jvm.Cond.eq (.field (jeTm i) "java/lang/String" "coder" "B") (.int 0) ∈ jeFl) && decide (Jvm.Cond.arrayOf (.field (jeTm i) "java/lang/String" "value" "[B") .byte ∈ jeFl) && decide (Jvm.Cond.eq (.length (.field (jeTm i) "java/lang/String" "value" "[B")) (.int (Int32.ofNat n)) ∈ jeFl)
def jeE (i n : Nat) : Bool := (List.range n).all fun j => decide (Jvm.Cond.eq (.elem (.field (jeTm i) "java/lang/String" "value" "[B") (.int (Int32.ofNat j))) (.int ((jaBy.getD i []).getD j 0)) ∈ jeFl)
theorem jeS_0 : jeS 0 9 = true := by decide +kernel
theorem jeS_1 : jeS 1 158 = true := by decide +kernel
theorem jeE_0 : jeE 0 9 = true := by decide +kernel
def jeEp (a n : Nat) : Bool := (List.range n).all fun j => decide (Jvm.Cond.eq (.elem (.field (jeTm 1) "java/lang/String" "value" "[B") (.int (Int32.ofNat (a + j)))) (.int ((jaBy.getD 1 []).getD (a + j) 0)) ∈ jeFl)
theorem jeEp_0 : jeEp 0 20 = true := by decide +kernel
theorem jeEp_1 : jeEp 20 20 = true := by decide +kernel
theorem jeEp_2 : jeEp 40 20 = true := by decide +kernel
theorem jeEp_3 : jeEp 60 20 = true := by decide +kernel
theorem jeEp_4 : jeEp 80 20 = true := by decide +kernel
theorem jeEp_5 : jeEp 100 20 = true := by decide +kernel
theorem jeEp_6 : jeEp 120 20 = true := by decide +kernel
theorem jeEp_7 : jeEp 140 18 = true := by decide +kernel
theorem jeEp_in {a n j : Nat} (h : jeEp a n = true) (h1 : a ≤ j) (h2 : j < a + n) : Jvm.Cond.eq (.elem (.field (jeTm 1) "java/lang/String" "value" "[B") (.int (Int32.ofNat j))) (.int ((jaBy.getD 1 []).getD j 0)) ∈ jeFl := by
  obtain ⟨k, rfl⟩ : ∃ k, j = a + k := ⟨j - a, by omega⟩
  exact of_decide_eq_true (List.all_eq_true.mp (show ((List.range n).all fun j => decide (Jvm.Cond.eq (.elem (.field (jeTm 1) "java/lang/String" "value" "[B") (.int (Int32.ofNat (a + j)))) (.int ((jaBy.getD 1 []).getD (a + j) 0)) ∈ jeFl)) = true from h) k (List.mem_range.mpr (by omega)))
theorem jeE_1 : ∀ j, j < 158 → Jvm.Cond.eq (.elem (.field (jeTm 1) "java/lang/String" "value" "[B") (.int (Int32.ofNat j))) (.int ((jaBy.getD 1 []).getD j 0)) ∈ jeFl := by
  intro j hj
  by_cases h : j < 80
  · by_cases h : j < 40
    · by_cases h : j < 20
      · exact jeEp_in jeEp_0 (by omega) (by omega)
      · exact jeEp_in jeEp_1 (by omega) (by omega)
    · by_cases h : j < 60
      · exact jeEp_in jeEp_2 (by omega) (by omega)
      · exact jeEp_in jeEp_3 (by omega) (by omega)
  · by_cases h : j < 120
    · by_cases h : j < 100
      · exact jeEp_in jeEp_4 (by omega) (by omega)
      · exact jeEp_in jeEp_5 (by omega) (by omega)
    · by_cases h : j < 140
      · exact jeEp_in jeEp_6 (by omega) (by omega)
      · exact jeEp_in jeEp_7 (by omega) (by omega)
def jeN : Bool := decide (Jvm.Cond.not (.eq (jeTm 0) (jeTm 1)) ∈ jeFl) || decide (Jvm.Cond.not (.eq (jeTm 1) (jeTm 0)) ∈ jeFl)
theorem jeN_ok : jeN = true := by decide +kernel
theorem je_S {args : Array Value} {s : State} {A : Nat → Prop} (hg : (Jvm.Cond.and given_1 narrow_1).before args s = true) (hA : ∀ a : Nat, a < s.heap.size → ¬ A a) :
    ∃ adK adV : Nat → Nat, vk_S 2 [9, 158] jaBy adK adV A s s.heap ∧ ∀ i : Nat, i < 2 → (jeTm i).eval args s none [] s = some (.ref (adK i)) := by
  have hf : ∀ w, w ∈ jeFl → w.before args s = true := fun w hw => flat_of_before _ hg w hw
  have hS : ∀ i : Nat, i < 2 → Jvm.Cond.exactly (jeTm i) "java/lang/String" ∈ jeFl ∧ Jvm.Cond.eq (.field (jeTm i) "java/lang/String" "coder" "B") (.int 0) ∈ jeFl ∧ Jvm.Cond.arrayOf (.field (jeTm i) "java/lang/String" "value" "[B") .byte ∈ jeFl ∧ Jvm.Cond.eq (.length (.field (jeTm i) "java/lang/String" "value" "[B")) (.int (Int32.ofNat ([9, 158].getD i 0))) ∈ jeFl ∧ ∀ j : Nat, j < [9, 158].getD i 0 → Jvm.Cond.eq (.elem (.field (jeTm i) "java/lang/String" "value" "[B") (.int (Int32.ofNat j))) (.int ((jaBy.getD i []).getD j 0)) ∈ jeFl := by
    intro i hi
    have : i = 0 ∨ i = 1 := by omega
    rcases this with rfl | rfl
    · have h1 := jeS_0
      simp only [jeS, Bool.and_eq_true, decide_eq_true_eq] at h1
      refine ⟨h1.1.1.1, h1.1.1.2, h1.1.2, h1.2, fun j hj => ?_⟩
      have h2 := List.all_eq_true.mp (show ((List.range 9).all fun j => decide (Jvm.Cond.eq (.elem (.field (jeTm 0) "java/lang/String" "value" "[B") (.int (Int32.ofNat j))) (.int ((jaBy.getD 0 []).getD j 0)) ∈ jeFl)) = true from jeE_0) j (List.mem_range.mpr hj)
      exact of_decide_eq_true h2
    · have h1 := jeS_1
      simp only [jeS, Bool.and_eq_true, decide_eq_true_eq] at h1
      refine ⟨h1.1.1.1, h1.1.1.2, h1.1.2, h1.2, fun j hj => ?_⟩
      exact jeE_1 j hj
  refine vk_Sof (tm := jeTm) (fun i hi => ?_) (fun i hi => hf _ (hS i hi).1) (fun i hi => hf _ (hS i hi).2.1) (fun i hi => hf _ (hS i hi).2.2.1) (fun i hi => hf _ (hS i hi).2.2.2.1) (fun i hi j hj => hf _ ((hS i hi).2.2.2.2 j hj)) (fun i j hi hj hij => ?_) hA
  · have : i = 0 ∨ i = 1 := by omega
    rcases this with rfl | rfl <;> decide
  · have h3 := jeN_ok
    simp only [jeN, Bool.or_eq_true, decide_eq_true_eq] at h3
    have : (i = 0 ∧ j = 1) ∨ (i = 1 ∧ j = 0) := by omega
    rcases this with ⟨rfl, rfl⟩ | ⟨rfl, rfl⟩
    · exact h3.imp (fun h => hf _ h) (fun h => hf _ h)
    · exact h3.symm.imp (fun h => hf _ h) (fun h => hf _ h)
end
