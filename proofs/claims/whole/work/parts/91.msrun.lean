section
/-! the reference: a SENTENCE read -/
def jgT (D : Nat) (kk : Int32 → jaT → Prop) (σ : jaT) (S0 : jaS) (X : jtX) (A : Nat → Prop) (q : Nat) (Hd : Nat → Prop) (E : Nat → Prop) (d : Nat) (f : jgU → Nat → Sum jwF (jgU × Nat)) : Prop :=
  ∀ (u : jgU) (i : Nat) (stk : List Nat) (S : jaS), jmN S X i → jgM S u.1 u.2 stk d 0 → u.1.length ≤ 2 * u.2 → u.2 ≤ 20 → (∀ c r, stk = c :: r → Hd c) → stk.length + q ≤ 3 * (d - 1) + 2 → jaFr jgH jgG S0 S →
    (∀ u' i', f u i = .inr (u', i') → ∀ S' zs xs l0, (∀ c, c ∈ zs → c = 20) → d + zs.length ≤ 9 → (∀ c, c ∈ xs → A c) → (xs ++ stk).length ≤ 3 * (d - 1) + 2 → jmN S' X i' → jgM S' l0 u'.2 (zs ++ (xs ++ stk)) (d + zs.length) 1 → u'.1 = l0 ++ zs.map jgQ ++ xs.map jgQ → E (jtK X i') → jaFr jgH jgG S0 S' → jc_M_sentence_1 D kk (nI 1) (jaU σ 20 S')) →
    (∀ c p, f u i = .inl (c, p) → ∀ S', jmFl S' X c p → jaFr jgH jgG S0 S' → kk ((-1) - nI (jtAt X p)) (jaU σ 20 S')) →
    jc_M_sentence_1 D kk (nI 1) (jaU σ 20 S)
theorem jgLen {l0 : List jbY} {zs xs : List Nat} {l : List jbY} (h : l = l0 ++ zs.map jgQ ++ xs.map jgQ) : l.length = l0.length + zs.length + xs.length := by
  rw [h, List.length_append, List.length_append, jgMp, jgMp]
set_option maxHeartbeats 4000000 in
theorem jgT_l {D : Nat} (hD : 6 ≤ D) {kk : Int32 → jaT → Prop} {σ : jaT} {S0 : jaS} {X : jtX} {A A' : Nat → Prop} {q : Nat} {Hd Hd' : Nat → Prop} {E : Nat → Prop} {d w tok : Nat} {g : jgU → Nat → Sum jwF (jgU × Nat)} (hw : (w = 21 ∧ tok = 114) ∨ (w = 22 ∧ tok = 113)) (hA : ∀ c, A c → c = 21) (hAA : ∀ c, A' c ↔ A c ∨ c = w) (hH1 : ∀ c, Hd' c → c ≠ 20 ∧ ¬ (c = 21 ∨ (c = 22 ∧ w = 22))) (hH2 : ∀ c, Hd' c → Hd c) (hHw : Hd w) (hd1 : 1 ≤ d) (hd : d ≤ 9) (hg : jgF g) (H : jgT D kk σ S0 X A q Hd E d g) :
    jgT D kk σ S0 X A' (q + 1) Hd' (fun K => E K ∧ K ≠ tok) d (fun u i => jwB (g u i) fun y => jgLoop X g tok w 20 y.1 y.2) := by
  intro u i stk S hR hM hl ho hh hs f h h0
  simp only [] at h h0
  have hAw : ∀ c, A' c → c = 21 ∨ (c = 22 ∧ w = 22) := fun c hc => by
    rcases (hAA c).mp hc with z | z
    · exact Or.inl (hA c z)
    · omega
  have L : ∀ n x u i S1 zs xs l0, x + n = 20 → x + 1 ≤ u.2 → u.2 ≤ 20 → u.1.length + 1 ≤ 2 * u.2 → (∀ c, c ∈ zs → c = 20) → d + zs.length ≤ 9 → (∀ c, c ∈ xs → A' c) → (xs ++ stk).length ≤ 3 * (d - 1) + 2 → jmN S1 X i → jgM S1 l0 u.2 (zs ++ (xs ++ stk)) (d + zs.length) 1 → u.1 = l0 ++ zs.map jgQ ++ xs.map jgQ → E (jtK X i) → jaFr jgH jgG S0 S1 →
      (∀ u' i', jgLoop X g tok w n u i = .inr (u', i') → ∀ S' zs xs l0, (∀ c, c ∈ zs → c = 20) → d + zs.length ≤ 9 → (∀ c, c ∈ xs → A' c) → (xs ++ stk).length ≤ 3 * (d - 1) + 2 → jmN S' X i' → jgM S' l0 u'.2 (zs ++ (xs ++ stk)) (d + zs.length) 1 → u'.1 = l0 ++ zs.map jgQ ++ xs.map jgQ → (E (jtK X i') ∧ jtK X i' ≠ tok) → jaFr jgH jgG S0 S' → jc_M_sentence_1 D kk (nI 1) (jaU σ 20 S')) →
      (∀ c p, jgLoop X g tok w n u i = .inl (c, p) → ∀ S', jmFl S' X c p → jaFr jgH jgG S0 S' → kk ((-1) - nI (jtAt X p)) (jaU σ 20 S')) →
      jc_M_sentence_1 D kk (nI 1) (jaU σ 20 S1) := by
    intro n
    induction n with
    | zero => intro x u i S1 zs xs l0 hx h1 h2; exact absurd h2 (by omega)
    | succ n ih =>
      intro x u i S1 zs xs l0 hx hxo ho hl hz hdz hxs hlen hR1 hM1 hu hE f1 h h0
      rw [jgLoop] at h h0
      have hlu := jgLen hu
      by_cases qk : jtK X i = tok
      · rw [jaIf1_t qk] at h h0
        have hzl : (zs ++ (xs ++ stk)).length ≤ 44 := by
          rw [List.length_append]
          omega
        refine jm_op (w := w) (tok := tok) (zs := zs) (xs := xs) (stk := stk) (l := l0) (o := u.2) (d := d) hD hw hz (fun c hc => hAw c (hxs c hc)) (fun c r e => hH1 c (hh c r e)) hR1 qk hM1 (by omega) hzl (by omega) (fun S2 a2 m2 f2 => ?_)
        rw [← hu] at m2
        refine H u (i + 1) (w :: stk) S2 a2 m2 (by omega) ho (fun c r e => by cases e; exact hHw) (by rw [List.length_cons]; omega) (f1.trans f2) (fun u1 i1 e S3 zs3 xs3 l3 b1 b2 b3 b4 b5 b6 b7 b8 b9 => ?_) (fun c p e S3 b1 b2 => ?_)
        · rw [jwB_i e] at h h0
          obtain ⟨g1, g2, g3⟩ := hg _ _ _ _ e ho
          refine ih (x + 1) (u1.1 ++ [(w, 0, 0)], u1.2) i1 S3 zs3 (xs3 ++ [w]) l3 (by omega) (show x + 1 + 1 ≤ u1.2 by omega) g2 ?_ b1 b2 (fun c hc => ?_) ?_ b5 ?_ ?_ b8 b9 h h0
          · show (u1.1 ++ [(w, 0, 0)]).length + 1 ≤ 2 * u1.2
            rw [List.length_append]
            simp only [List.length_cons, List.length_nil]
            omega
          · rcases List.mem_append.mp hc with z | z
            · exact (hAA c).mpr (Or.inl (b3 c z))
            · exact (hAA c).mpr (Or.inr (List.mem_singleton.mp z))
          · rw [List.append_assoc]
            exact b4
          · rw [List.append_assoc]
            exact b6
          · show u1.1 ++ [(w, 0, 0)] = l3 ++ zs3.map jgQ ++ (xs3 ++ [w]).map jgQ
            rw [b7, List.map_append, ← List.append_assoc]
            rfl
        · rw [jwB_l e] at h0
          exact h0 c p rfl S3 b1 b2
      · rw [jaIf1_f qk] at h
        exact h u i rfl S1 zs xs l0 hz hdz hxs hlen hR1 hM1 hu ⟨hE, qk⟩ f1
  refine H u i stk S hR hM hl ho (fun c r e => hH2 c (hh c r e)) (by omega) f (fun u1 i1 e S3 zs3 xs3 l3 b1 b2 b3 b4 b5 b6 b7 b8 b9 => ?_) (fun c p e S3 b1 b2 => ?_)
  · rw [jwB_i e] at h h0
    obtain ⟨g1, g2, g3⟩ := hg _ _ _ _ e ho
    exact L 20 0 u1 i1 S3 zs3 xs3 l3 rfl (by omega) g2 (by omega) b1 b2 (fun c hc => (hAA c).mpr (Or.inl (b3 c hc))) b4 b5 b6 b7 b8 b9 h h0
  · rw [jwB_l e] at h0
    exact h0 c p rfl S3 b1 b2
abbrev jgT1 (D : Nat) (kk : Int32 → jaT → Prop) (σ : jaT) (S0 : jaS) (X : jtX) (d : Nat) (f : jgU → Nat → Sum jwF (jgU × Nat)) : Prop := jgT D kk σ S0 X (fun _ => False) 0 (fun _ => True) (fun _ => True) d f
theorem jgT_or {D : Nat} (hD : 6 ≤ D) {kk : Int32 → jaT → Prop} {σ : jaT} {S0 : jaS} {X : jtX} {d : Nat} {g : jgU → Nat → Sum jwF (jgU × Nat)} (hd1 : 1 ≤ d) (hd : d ≤ 9) (hg : jgF g) (H : jgT1 D kk σ S0 X d g) : jgT D kk σ S0 X (fun c => c = 21 ∨ c = 22) 2 (fun c => c = 23) (fun K => (True ∧ K ≠ 114) ∧ K ≠ 113) d (jgOr X g) := by
  have H2 := jgT_l (A' := fun c => c = 21) (Hd' := fun c => c ≠ 20 ∧ c ≠ 21) (w := 21) (tok := 114) hD (Or.inl ⟨rfl, rfl⟩) (fun c z => z.elim) (fun c => ⟨fun z => Or.inr z, fun z => z.resolve_left (fun y => y)⟩) (fun c z => ⟨z.1, fun y => y.elim z.2 (fun y => absurd y.2 (by decide))⟩) (fun _ _ => trivial) trivial hd1 hd hg H
  exact jgT_l (g := jgAnd X g) (A' := fun c => c = 21 ∨ c = 22) (Hd' := fun c => c = 23) (w := 22) (tok := 113) hD (Or.inr ⟨rfl, rfl⟩) (fun c z => z) (fun c => Iff.rfl) (fun c z => by omega) (fun c z => by omega) ⟨by decide, by decide⟩ hd1 hd (jgAnd_r hg) H2
set_option maxHeartbeats 4000000 in
theorem jm_one {D : Nat} (hD : 7 ≤ D) {kk : Int32 → jaT → Prop} {σ : jaT} {S0 : jaS} {X : jtX} {nm : Nat → Nat} {n0 nK : Nat} (h03 : n0 ≤ 3) (hK10 : nK ≤ 10) (hE : jgN S0 nm n0 nK) : ∀ e d, d + e = 9 → 1 ≤ d → jgT1 D kk σ S0 X d (jgOne X nm n0 nK e) := by
  intro e
  induction e with
  | zero =>
    intro d hde hd1 u i stk S hR hM hl ho hh hs f h h0
    have e49 : S.1 70 0 49 = nI 0 := hM.2.2.2.2.2
    rw [jgOne] at h0
    have B : jaDe D jy_M_operand [jaMo] (jaU σ 20 S) (jaKi fun r3 σ2 => (¬ r3 = 0 → jc_M_sentence_1 D kk (nI 1) σ2) ∧ (r3 = 0 → kk ((-1 : Int32) - ((σ2 20).1 70 0 19)) σ2)) := by
      refine sp_M_operand (nm := nm) (n0 := n0) (nK := nK) (by omega) hR hM (hE.f f (by decide) (by decide)) h03 hK10 ho (by omega) (by omega) (by omega) (fun q S' a g => ?_) (fun q _ S' a g => ?_) (fun c _ _ z => absurd z (by omega)) (fun _ _ _ z => absurd z (by omega)) (fun _ _ _ z => absurd z (by omega))
      · rw [jaIf1_f q] at h0
        refine ⟨fun z => absurd rfl z, fun _ => ?_⟩
        rw [jaU_eq, a.2]
        exact h0 1 i rfl S' a (f.trans g)
      · rw [jaIf1_t q] at h0
        refine ⟨fun z => absurd rfl z, fun _ => ?_⟩
        rw [jaU_eq, a.2]
        exact h0 4 i rfl S' a (f.trans g)
    apply jb_M_sentence_1
    rw [jaU_eq, e49]
    exact ⟨fun z => absurd z (by decide), fun _ => ⟨fun _ => ⟨fun _ => B, fun z => absurd rfl z⟩, fun z => absurd rfl z⟩⟩
  | succ e ih =>
    intro d hde hd1 u i stk S hR hM hl ho hh hs f h h0
    have e49 : S.1 70 0 49 = nI 0 := hM.2.2.2.2.2
    rw [jgOne] at h h0
    have B : jaDe D jy_M_operand [jaMo] (jaU σ 20 S) (jaKi fun r3 σ2 => (¬ r3 = 0 → jc_M_sentence_1 D kk (nI 1) σ2) ∧ (r3 = 0 → kk ((-1 : Int32) - ((σ2 20).1 70 0 19)) σ2)) := by
      refine sp_M_operand (nm := nm) (n0 := n0) (nK := nK) (by omega) hR hM (hE.f f (by decide) (by decide)) h03 hK10 ho (by omega) (by omega) (by omega) (fun q S' a g => ?_) (fun q qo S' a g => ?_) (fun c qc qo _ S' a m g => ?_) (fun q1 q2 qo _ y i' ey S' a m g => ?_) (fun q1 q2 qo _ c p ey S' a g => ?_)
      · rw [jaIf1_f q] at h0
        refine ⟨fun z => absurd rfl z, fun _ => ?_⟩
        rw [jaU_eq, a.2]
        exact h0 1 i rfl S' a (f.trans g)
      · have q20 : u.2 = 20 := by omega
        rw [jaIf1_t q, jaIf1_t q20] at h0
        refine ⟨fun z => absurd rfl z, fun _ => ?_⟩
        rw [jaU_eq, a.2]
        exact h0 4 i rfl S' a (f.trans g)
      · have q : jtK X i = 40 ∨ (115 ≤ jtK X i ∧ jtK X i ≤ 128) := by omega
        have q20 : ¬ u.2 = 20 := by omega
        rw [jaIf1_t q, jaIf1_f q20] at h h0
        refine ⟨fun _ => ?_, fun z => absurd z (by decide)⟩
        rcases qc with ⟨k115, rfl⟩ | ⟨k40, rfl⟩
        · have k40 : ¬ jtK X i = 40 := by omega
          rw [jaIf1_f k40, jaIf1_t k115] at h h0
          refine ih (d + 1) (by omega) (by omega) (u.1, u.2 + 1) (i + 1) (20 :: stk) S' a m (show u.1.length ≤ 2 * (u.2 + 1) by omega) (show u.2 + 1 ≤ 20 by omega) (fun _ _ _ => trivial) (by rw [List.length_cons]; omega) (f.trans g) (fun u1 i1 e1 S3 zs xs l3 b1 b2 b3 b4 b5 b6 b7 b8 b9 => ?_) (fun c p e1 S3 b1 b2 => ?_)
          · rw [jwB_i e1] at h
            have xe : xs = [] := by
              rcases xs with _ | ⟨y, ys⟩
              · rfl
              · exact (b3 y List.mem_cons_self).elim
            subst xe
            have b7 : u1.1 = l3 ++ zs.map jgQ ++ [] := b7
            rw [List.append_nil] at b7
            refine h (u1.1 ++ [(20, 0, 0)], u1.2) i1 rfl S3 (zs ++ [20]) [] l3 (fun c hc => ?_) ?_ (fun c hc => absurd hc List.not_mem_nil) ?_ b5 ?_ ?_ trivial b9
            · rcases List.mem_append.mp hc with z | z
              · exact b1 c z
              · exact List.mem_singleton.mp z
            · rw [List.length_append]
              simp only [List.length_cons, List.length_nil]
              omega
            · show stk.length ≤ _
              omega
            · rw [List.append_assoc, List.length_append]
              have b6 : jgM S3 l3 u1.2 (zs ++ (20 :: stk)) (d + 1 + zs.length) 1 := b6
              rw [show d + 1 + zs.length = d + (zs.length + [20].length) by simp only [List.length_cons, List.length_nil]; omega] at b6
              exact b6
            · show u1.1 ++ [(20, 0, 0)] = l3 ++ (zs ++ [20]).map jgQ ++ []
              rw [b7, List.map_append, List.append_nil, ← List.append_assoc]
              rfl
          · rw [jwB_l e1] at h0
            exact h0 c p rfl S3 b1 b2
        · rw [jaIf1_t k40] at h h0
          refine jgT_or (by omega) (by omega) (by omega) (jgOne_r e) (ih (d + 1) (by omega) (by omega)) (u.1, u.2 + 1) (i + 1) (23 :: stk) S' a m (show u.1.length ≤ 2 * (u.2 + 1) by omega) (show u.2 + 1 ≤ 20 by omega) (fun c r e => by cases e; rfl) (by rw [List.length_cons]; omega) (f.trans g) (fun u1 i1 e1 S3 zs xs l3 b1 b2 b3 b4 b5 b6 b7 b8 b9 => ?_) (fun c p e1 S3 b1 b2 => ?_)
          · rw [jwB_i e1] at h h0
            obtain ⟨g1, g2, g3⟩ := jgOr_r (jgOne_r e) _ _ _ _ e1 (show u.2 + 1 ≤ 20 by omega)
            have g3 : u1.1.length + 1 + 2 * (u.2 + 1) ≤ u.1.length + 2 * u1.2 := g3
            have hlu := jgLen b7
            refine jm_end (zs := zs) (xs := xs) (stk := 23 :: stk) (l := l3) (o := u1.2) (d := d + 1) (by omega) b1 b3 (fun c r e => by cases e; rfl) b5 ⟨b8.1.2, b8.2⟩ b6 (by omega) ?_ (by omega) (by omega) (fun _ z => absurd z (by simp)) (fun k41 r er S4 a4 m4 f4 => ?_) (fun _ z S4 a4 f4 => ?_)
            · rw [List.length_append]
              omega
            · cases er
              rw [jaIf1_t k41] at h
              rw [← b7] at m4
              refine h u1 (i1 + 1) rfl S4 [] [] u1.1 (fun c hc => absurd hc List.not_mem_nil) (by simp only [List.length_nil]; omega) (fun c hc => absurd hc List.not_mem_nil) (by show stk.length ≤ _; omega) a4 ?_ (by rw [List.map_nil, List.append_nil, List.append_nil]) trivial (b9.trans f4)
              show jgM S4 u1.1 u1.2 stk (d + 0) 1
              exact m4
            · have k41 : ¬ jtK X i1 = 41 := fun y => z ⟨y, by simp⟩
              rw [jaIf1_f k41] at h0
              exact h0 1 i1 rfl S4 a4 (b9.trans f4)
          · rw [jwB_l e1] at h0
            exact h0 c p rfl S3 b1 b2
      · have q : jtK X i = 40 ∨ (115 ≤ jtK X i ∧ jtK X i ≤ 128) := by omega
        have q20 : ¬ u.2 = 20 := by omega
        have k40 : ¬ jtK X i = 40 := by omega
        have k115 : ¬ jtK X i = 115 := by omega
        rw [jaIf1_t q, jaIf1_f q20, jaIf1_f k40, jaIf1_f k115, jwB_i ey] at h
        refine ⟨fun _ => ?_, fun z => absurd z (by decide)⟩
        refine h (u.1 ++ [y], u.2 + 1) i' rfl S' [] [] (u.1 ++ [y]) (fun c hc => absurd hc List.not_mem_nil) (by simp only [List.length_nil]; omega) (fun c hc => absurd hc List.not_mem_nil) (by show stk.length ≤ _; omega) a ?_ (by rw [List.map_nil, List.append_nil, List.append_nil]) trivial (f.trans g)
        exact m
      · have q : jtK X i = 40 ∨ (115 ≤ jtK X i ∧ jtK X i ≤ 128) := by omega
        have q20 : ¬ u.2 = 20 := by omega
        have k40 : ¬ jtK X i = 40 := by omega
        have k115 : ¬ jtK X i = 115 := by omega
        rw [jaIf1_t q, jaIf1_f q20, jaIf1_f k40, jaIf1_f k115, jwB_l ey] at h0
        refine ⟨fun z => absurd rfl z, fun _ => ?_⟩
        rw [jaU_eq, a.2]
        exact h0 c p rfl S' a (f.trans g)
    apply jb_M_sentence_1
    rw [jaU_eq, e49]
    exact ⟨fun z => absurd z (by decide), fun _ => ⟨fun _ => ⟨fun _ => B, fun z => absurd rfl z⟩, fun z => absurd rfl z⟩⟩
end
