/-! laws of the pure machine: monotone steps, runs by steps, calls by depths -/
def jaLe (Γ Γ' : jaG) : Prop := ∀ (y : Nat) (as : List jaV) (σ : jaT) (Q Q' : jaQ), (∀ r σ, Q r σ → Q' r σ) → Γ y as σ Q → Γ' y as σ Q'
theorem jaBif_mono {b : Bool} {P P' : Prop} (h : P → P') (q : bif b then P else False) : bif b then P' else False := by
  cases b
  · exact q
  · exact h q
theorem jaBnf_mono {b : Bool} {P P' : Prop} (h : P → P') (q : bif b then False else P) : bif b then False else P' := by
  cases b
  · exact h q
  · exact q
theorem jaB2_mono {f : Int32 → Int32 → Int32} {K K' : List jaV → Prop} {st : List jaV} (h : ∀ st, K st → K' st) (q : jaB2 f K st) : jaB2 f K' st := by
  unfold jaB2 at *
  split at q
  · exact h _ q
  · exact q.elim
theorem jaB1_mono {f : Int32 → Int32} {K K' : List jaV → Prop} {st : List jaV} (h : ∀ st, K st → K' st) (q : jaB1 f K st) : jaB1 f K' st := by
  unfold jaB1 at *
  split at q
  · exact h _ q
  · exact q.elim
theorem jaL2_mono {f : Int64 → Int64 → Int64} {K K' : List jaV → Prop} {st : List jaV} (h : ∀ st, K st → K' st) (q : jaL2 f K st) : jaL2 f K' st := by
  unfold jaL2 at *
  split at q
  · exact h _ q
  · exact q.elim
theorem jaLd_mono {ls : List (Option jaV)} {n : Nat} {K K' : jaV → Prop} (h : ∀ v, K v → K' v) (q : jaLd ls n K) : jaLd ls n K' := by
  unfold jaLd at *
  split at q
  · exact h _ q
  · exact q.elim
theorem jaLi_mono {K K' : Int32 → Prop} {v : jaV} (h : ∀ v, K v → K' v) (q : jaLi K v) : jaLi K' v := by
  unfold jaLi at *
  split at q
  · exact h _ q
  · exact q.elim
theorem jaLl_mono {K K' : Int64 → Prop} {v : jaV} (h : ∀ v, K v → K' v) (q : jaLl K v) : jaLl K' v := by
  unfold jaLl at *
  split at q
  · exact h _ q
  · exact q.elim
theorem jaLr_mono {K K' : jaR → Prop} {v : jaV} (h : ∀ v, K v → K' v) (q : jaLr K v) : jaLr K' v := by
  unfold jaLr at *
  split at q
  · exact h _ q
  · exact q.elim
theorem jaPop_mono {K K' : jaV → List jaV → Prop} {st : List jaV} (h : ∀ v st, K v st → K' v st) (q : jaPop K st) : jaPop K' st := by
  unfold jaPop at *
  split at q
  · exact h _ _ q
  · exact q.elim
theorem jaIf_mono {cd : ClassFile.Cond} {x y : Int32} {A B A' B' : Prop} (h : A → A') (h' : B → B') (q : jaIf cd x y A B) : jaIf cd x y A' B' := by
  cases cd <;> exact ⟨fun c => h (q.1 c), fun c => h' (q.2 c)⟩
theorem jaSw_mono {x : Int32} {J J' : Nat → Prop} (h : ∀ a, J a → J' a) : ∀ (l : List Nat) (v : Int), jaSw x J v l → jaSw x J' v l
  | [], _, _ => trivial
  | _ :: l, v, q => ⟨fun c => h _ (q.1 c), jaSw_mono h l (v + 1) q.2⟩
theorem jaLk_mono {x : Int32} {J J' : Nat → Prop} (h : ∀ a, J a → J' a) : ∀ (ps : List (Int × Int)) (l : List Nat), jaLk x J ps l → jaLk x J' ps l
  | [], [], _ => trivial
  | [], _ :: _, _ => trivial
  | _ :: _, [], _ => trivial
  | (_, _) :: ps, _ :: l, q => ⟨fun c => h _ (q.1 c), jaLk_mono h ps l q.2⟩
theorem jaKi_mono {k k' : Int32 → jaT → Prop} (h : ∀ x σ, k x σ → k' x σ) (r : Option jaV) (σ : jaT) (q : jaKi k r σ) : jaKi k' r σ := by
  unfold jaKi at *
  split at q
  · exact h _ _ q
  · exact q.elim
theorem jaKl_mono {k k' : Int64 → jaT → Prop} (h : ∀ x σ, k x σ → k' x σ) (r : Option jaV) (σ : jaT) (q : jaKl k r σ) : jaKl k' r σ := by
  unfold jaKl at *
  split at q
  · exact h _ _ q
  · exact q.elim
theorem jaKv_mono {k k' : jaT → Prop} (h : ∀ σ, k σ → k' σ) (r : Option jaV) (σ : jaT) (q : jaKv k r σ) : jaKv k' r σ := by
  unfold jaKv at *
  split at q
  · exact h _ q
  · exact q.elim
set_option maxHeartbeats 4000000 in
theorem jaStep_mono {Ar : List jaA} {Γ Γ' : jaG} {Q Q' : jaQ} {X X' K K' : jaX} {J J' : Nat → List (Option jaV) → List jaV → jaT → Prop} (hΓ : jaLe Γ Γ') (hQ : ∀ r σ, Q r σ → Q' r σ) (hX : ∀ is ls st σ, X is ls st σ → X' is ls st σ) (hK : ∀ is ls st σ, K is ls st σ → K' is ls st σ) (hJ : ∀ a ls st σ, J a ls st σ → J' a ls st σ) :
    ∀ is ls st σ, jaStep Ar Γ Q X K J is ls st σ → jaStep Ar Γ' Q' X' K' J' is ls st σ
  | [], _, _, _, h => h
  | (pc, i, a, l) :: is, ls, st, σ, h => by
    cases i with
    | nop => exact hJ _ _ _ _ h
    | aload_n n => exact jaLd_mono (fun v => jaLr_mono fun r => jaBnf_mono (hK _ _ _ _)) h
    | aload n => exact jaLd_mono (fun v => jaLr_mono fun r => jaBnf_mono (hK _ _ _ _)) h
    | iload_n n => exact jaLd_mono (fun v => jaLi_mono fun r => hK _ _ _ _) h
    | iload n => exact jaLd_mono (fun v => jaLi_mono fun r => hK _ _ _ _) h
    | lload_n n => exact jaLd_mono (fun v => jaLl_mono fun r => hK _ _ _ _) h
    | lload n => exact jaLd_mono (fun v => jaLl_mono fun r => hK _ _ _ _) h
    | istore_n n => exact jaPop_mono (fun v st => jaLi_mono fun r => hK _ _ _ _) h
    | istore n => exact jaPop_mono (fun v st => jaLi_mono fun r => hK _ _ _ _) h
    | astore_n n => exact jaPop_mono (fun v st => jaLr_mono fun r => jaBnf_mono (hK _ _ _ _)) h
    | astore n => exact jaPop_mono (fun v st => jaLr_mono fun r => jaBnf_mono (hK _ _ _ _)) h
    | lstore_n n => exact jaPop_mono (fun v st => jaLl_mono fun r => hK _ _ _ _) h
    | lstore n => exact jaPop_mono (fun v st => jaLl_mono fun r => hK _ _ _ _) h
    | iconst n => exact hK _ _ _ _ h
    | bipush n => exact hK _ _ _ _ h
    | sipush n => exact hK _ _ _ _ h
    | lconst n => exact hK _ _ _ _ h
    | ldc n =>
      simp only [jaStep] at h ⊢
      split at h
      · exact hK _ _ _ _ h
      · exact hK _ _ _ _ h
      · exact hX _ _ _ _ h
    | ldc_w n =>
      simp only [jaStep] at h ⊢
      split at h
      · exact hK _ _ _ _ h
      · exact hX _ _ _ _ h
    | ldc2_w n => exact hK _ _ _ _ h
    | iinc n v => exact jaLd_mono (fun v => jaLi_mono fun r => hK _ _ _ _) h
    | iadd => exact jaB2_mono (fun st => hK is ls st σ) h
    | isub => exact jaB2_mono (fun st => hK is ls st σ) h
    | imul => exact jaB2_mono (fun st => hK is ls st σ) h
    | irem => exact jaPop_mono (fun v st => jaLi_mono fun r q => ⟨q.1, jaB1_mono (fun st => hK is ls st σ) q.2⟩) h
    | ineg => exact jaB1_mono (fun st => hK is ls st σ) h
    | iand => exact jaB2_mono (fun st => hK is ls st σ) h
    | ior => exact jaB2_mono (fun st => hK is ls st σ) h
    | ixor => exact jaB2_mono (fun st => hK is ls st σ) h
    | ishl => exact jaB2_mono (fun st => hK is ls st σ) h
    | ishr => exact jaB2_mono (fun st => hK is ls st σ) h
    | iushr => exact jaB2_mono (fun st => hK is ls st σ) h
    | ladd => exact jaL2_mono (fun st => hK is ls st σ) h
    | lsub => exact jaL2_mono (fun st => hK is ls st σ) h
    | lmul => exact jaL2_mono (fun st => hK is ls st σ) h
    | land => exact jaL2_mono (fun st => hK is ls st σ) h
    | lor => exact jaL2_mono (fun st => hK is ls st σ) h
    | lxor => exact jaL2_mono (fun st => hK is ls st σ) h
    | lshl => exact jaPop_mono (fun v st => jaLi_mono fun r => jaPop_mono (fun v st => jaLl_mono fun r => hK _ _ _ _)) h
    | lushr => exact jaPop_mono (fun v st => jaLi_mono fun r => jaPop_mono (fun v st => jaLl_mono fun r => hK _ _ _ _)) h
    | lcmp => exact jaPop_mono (fun v st => jaLl_mono fun r => jaPop_mono (fun v st => jaLl_mono fun r => hK _ _ _ _)) h
    | i2l => exact jaPop_mono (fun v st => jaLi_mono fun r => hK _ _ _ _) h
    | l2i => exact jaPop_mono (fun v st => jaLl_mono fun r => hK _ _ _ _) h
    | i2b => exact jaB1_mono (fun st => hK is ls st σ) h
    | i2c => exact jaB1_mono (fun st => hK is ls st σ) h
    | dup =>
      simp only [jaStep] at h ⊢
      split at h
      · exact hK _ _ _ _ h
      · exact hK _ _ _ _ h
      · exact h.elim
    | dup_x1 =>
      simp only [jaStep] at h ⊢
      split at h
      · exact hK _ _ _ _ h
      · exact h.elim
    | dup2 =>
      simp only [jaStep] at h ⊢
      split at h
      · exact hK _ _ _ _ h
      · exact h.elim
    | pop =>
      simp only [jaStep] at h ⊢
      split at h
      · exact hK _ _ _ _ h
      · exact h.elim
    | goto o =>
      simp only [jaStep] at h ⊢
      split at h
      · exact hJ _ _ _ _ h
      · exact hX _ _ _ _ h
    | ifCond cd o => exact jaPop_mono (fun v st => jaLi_mono fun r => jaIf_mono (hJ _ _ _ _) (hK _ _ _ _)) h
    | if_icmp cd o => exact jaPop_mono (fun v st => jaLi_mono fun r => jaPop_mono (fun v st => jaLi_mono fun r => jaIf_mono (hJ _ _ _ _) (hK _ _ _ _))) h
    | tableswitch d lo hi os => exact jaPop_mono (fun v st => jaLi_mono fun r q => ⟨fun c => hJ _ _ _ _ (q.1 c), jaSw_mono (fun a => hJ _ _ _ _) _ _ q.2⟩) h
    | lookupswitch d ps => exact jaPop_mono (fun v st => jaLi_mono fun r q => ⟨fun c => hJ _ _ _ _ (q.1 c), jaLk_mono (fun a => hJ _ _ _ _) _ _ q.2⟩) h
    | getfield n =>
      simp only [jaStep] at h ⊢
      split at h
      · rename_i o tag o' ka q k c st
        cases hb : Nat.beq q o
        · rw [hb] at h
          exact h.elim
        · rw [hb] at h
          simp only [cond_true] at h ⊢
          split at h <;> exact hK _ _ _ _ h
      · exact h.elim
    | putfield n =>
      simp only [jaStep] at h ⊢
      split at h
      · rename_i o o' ka v q k c st
        cases hb : Nat.beq q o
        · rw [hb] at h
          exact h.elim
        · rw [hb] at h
          exact hK _ _ _ _ h
      · rename_i o o' ka v q k c st
        cases hb : Nat.beq q o
        · rw [hb] at h
          exact h.elim
        · rw [hb] at h
          exact ⟨h.1, hK _ _ _ _ h.2⟩
      · rename_i o o' ka v q k c st
        cases hb : Nat.beq q o
        · rw [hb] at h
          exact h.elim
        · rw [hb] at h
          exact hK _ _ _ _ h
      · exact h.elim
    | getstatic n =>
      simp only [jaStep] at h ⊢
      split at h
      · exact hK _ _ _ _ h
      · exact hK _ _ _ _ h
      · exact h.elim
    | arraylength =>
      simp only [jaStep] at h ⊢
      split at h
      · split at h
        · exact h.elim
        · exact hK _ _ _ _ h
      · exact h.elim
    | iaload =>
      simp only [jaStep] at h ⊢
      split at h
      · split at h
        · exact ⟨h.1, hK _ _ _ _ h.2⟩
        · exact ⟨h.1, hK _ _ _ _ h.2⟩
        · exact h.elim
      · exact h.elim
    | baload =>
      simp only [jaStep] at h ⊢
      split at h
      · split at h
        · exact ⟨h.1, hK _ _ _ _ h.2⟩
        · exact ⟨h.1, hK _ _ _ _ h.2⟩
        · exact ⟨h.1, hK _ _ _ _ h.2⟩
        · exact h.elim
      · exact h.elim
    | laload =>
      simp only [jaStep] at h ⊢
      split at h
      · split at h
        · exact ⟨h.1, hK _ _ _ _ h.2⟩
        · exact h.elim
      · exact h.elim
    | aaload =>
      simp only [jaStep] at h ⊢
      split at h
      · split at h
        · exact ⟨h.1, hK _ _ _ _ h.2⟩
        · exact h.elim
      · exact h.elim
    | iastore =>
      simp only [jaStep] at h ⊢
      split at h
      · split at h
        · exact ⟨h.1, hK _ _ _ _ h.2⟩
        · exact h.elim
      · exact h.elim
    | bastore =>
      simp only [jaStep] at h ⊢
      split at h
      · split at h
        · exact ⟨h.1, h.2.1, hK _ _ _ _ h.2.2⟩
        · exact ⟨h.1, hK _ _ _ _ h.2⟩
        · exact h.elim
      · exact h.elim
    | lastore =>
      simp only [jaStep] at h ⊢
      split at h
      · split at h
        · exact ⟨h.1, hK _ _ _ _ h.2⟩
        · exact h.elim
      · exact h.elim
    | invokevirtual n =>
      simp only [jaStep] at h ⊢
      split at h
      · exact jaBif_mono (hΓ _ _ _ _ _ (jaKv_mono fun σ => hK _ _ _ _)) h
      · exact jaBif_mono (hΓ _ _ _ _ _ (jaKi_mono fun x σ => hK _ _ _ _)) h
      · exact jaBif_mono (hΓ _ _ _ _ _ (jaKl_mono fun x σ => hK _ _ _ _)) h
      · exact hX _ _ _ _ h
    | invokestatic n =>
      simp only [jaStep] at h ⊢
      split at h
      · exact jaBif_mono (hΓ _ _ _ _ _ (jaKv_mono fun σ => hK _ _ _ _)) h
      · exact jaBif_mono (hΓ _ _ _ _ _ (jaKi_mono fun x σ => hK _ _ _ _)) h
      · exact jaBif_mono (hΓ _ _ _ _ _ (jaKl_mono fun x σ => hK _ _ _ _)) h
      · exact hX _ _ _ _ h
    | ireturn =>
      simp only [jaStep] at h ⊢
      split at h
      · exact hQ _ _ h
      · exact ⟨h.1, hQ _ _ h.2⟩
      · exact ⟨h.1, hQ _ _ h.2⟩
      · exact ⟨h.1, hQ _ _ h.2⟩
      · exact hX _ _ _ _ h
    | lreturn =>
      simp only [jaStep] at h ⊢
      split at h
      · exact hQ _ _ h
      · exact h.elim
    | return_ =>
      simp only [jaStep] at h ⊢
      split at h
      · exact hQ _ _ h
      · exact h.elim
    | _ => exact hX _ _ _ _ h
section
variable {Ar : List jaA} {Γ Γ' : jaG} {f : List jaI} {ps : List Nat} {Q Q' : jaQ} {X X' : jaX}
theorem jaRun_ind {P : jaX} {is : List jaI} {ls : List (Option jaV)} {st : List jaV} {σ : jaT} (h : jaRun Ar Γ f ps Q X is ls st σ) (hP : ∀ is ls st σ, jaStep Ar Γ Q X P (fun a => P (jaAt f ps a)) is ls st σ → P is ls st σ) : P is ls st σ := h P hP
theorem jaRun_step (hΓ : jaLe Γ Γ) {is : List jaI} {ls : List (Option jaV)} {st : List jaV} {σ : jaT} (h : jaStep Ar Γ Q X (jaRun Ar Γ f ps Q X) (fun a => jaRun Ar Γ f ps Q X (jaAt f ps a)) is ls st σ) : jaRun Ar Γ f ps Q X is ls st σ := by
  intro P hP
  exact hP _ _ _ _ (jaStep_mono hΓ (fun _ _ h => h) (fun _ _ _ _ h => h) (fun _ _ _ _ h => h P hP) (fun _ _ _ _ h => h P hP) _ _ _ _ h)
theorem jaRun_go (hΓ : jaLe Γ Γ) (cut : List Nat) : ∀ (n : Nat) (is : List jaI) (ls : List (Option jaV)) (st : List jaV) (σ : jaT), jaGo Ar Γ f ps Q X cut n is ls st σ → jaRun Ar Γ f ps Q X is ls st σ
  | 0, _, _, _, _, h => h
  | n + 1, _, _, _, _, h => by
    refine jaRun_step hΓ (jaStep_mono hΓ (fun _ _ h => h) (fun _ _ _ _ h => h) (fun _ _ _ _ h => jaRun_go hΓ cut n _ _ _ _ h) (fun a _ _ _ h => ?_) _ _ _ _ h)
    cases hc : jaIn a cut
    · rw [hc] at h
      exact jaRun_go hΓ cut n _ _ _ _ h
    · rw [hc] at h
      exact h
theorem jaRun_mono (hΓ : jaLe Γ Γ') (hQ : ∀ r σ, Q r σ → Q' r σ) (hX : ∀ is ls st σ, X is ls st σ → X' is ls st σ) {is : List jaI} {ls : List (Option jaV)} {st : List jaV} {σ : jaT} (h : jaRun Ar Γ f ps Q X is ls st σ) : jaRun Ar Γ' f ps Q' X' is ls st σ := by
  intro P hP
  refine h P (fun is ls st σ q => hP _ _ _ _ (jaStep_mono hΓ hQ hX (fun _ _ _ _ h => h) (fun _ _ _ _ h => h) _ _ _ _ q))
end
theorem jaCall_le (Ar : List jaA) (mt : List jaM) : ∀ (d n : Nat), jaLe (jaCall Ar mt d) (jaCall Ar mt (d + n))
  | 0, n, _, _, _, _, _, _, h => h.elim
  | d + 1, n, y, as, σ, Q, Q', hQ, h => by
    rw [show d + 1 + n = (d + n) + 1 by omega]
    exact jaBif_mono (jaRun_mono (jaCall_le Ar mt d n) hQ (fun _ _ _ _ h => h)) h
theorem jaCall_self (Ar : List jaA) (mt : List jaM) (d : Nat) : jaLe (jaCall Ar mt d) (jaCall Ar mt d) := jaCall_le Ar mt d 0
/-- a method's run out of its code's run from the first label -/
theorem jaCall_intro {Ar : List jaA} {mt : List jaM} {d y nL : Nat} {f : List jaI} {ps : List Nat} {as : List jaV} {σ : jaT} {Q : jaQ} (h : jaN ([], [], 0) mt y = (f, ps, nL)) (hl : Nat.ble (jaArg as).length nL = true) (k : jaRun Ar (jaCall Ar mt d) f ps Q jaNoX (jaAt f ps 0) (jaArg as ++ jaPad (nL - (jaArg as).length)) [] σ) : jaCall Ar mt (d + 1) y as σ Q := by
  show bif Nat.ble (jaArg as).length (jaN ([], [], 0) mt y).2.2 then jaRun Ar (jaCall Ar mt d) (jaN ([], [], 0) mt y).1 (jaN ([], [], 0) mt y).2.1 Q jaNoX (jaAt (jaN ([], [], 0) mt y).1 (jaN ([], [], 0) mt y).2.1 0) (jaArg as ++ jaPad ((jaN ([], [], 0) mt y).2.2 - (jaArg as).length)) [] σ else False
  rw [h]
  show bif Nat.ble (jaArg as).length nL then _ else False
  rw [hl]
  exact k
