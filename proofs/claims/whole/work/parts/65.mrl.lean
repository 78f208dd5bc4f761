section
/-! the reference: a LINE of a WORLD, all -/
theorem sp_M_readLine {D : Nat} (hD : 7 ≤ D) {kk : Int32 → jaT → Prop} {σ : jaT} {S : jaS} {X : jtX} {w : jwS} {i : Nat} (hR : jmN S X i) (hc : jmW S w) (hw : jwW w) (h : ∀ w' i', jwLine X w i = .inr (w', i') → ∀ S', jmW S' w' → jmN S' X i' → jmFw S S' → kk (nI 1) (jaU σ 20 S')) (hf : ∀ c p, jwLine X w i = .inl (c, p) → ∀ S', jmFl S' X c p → jmFw S S' → kk (nI 0) (jaU σ 20 S')) : jaDe D jy_M_readLine [jaMo] (jaU σ 20 S) (jaKi kk) := by
  obtain ⟨D, rfl, hD⟩ := jaSuc hD
  have hc' := hc
  obtain ⟨r, o, m⟩ := hc'
  have w8 := hw.2.2.2.2.2.2.2.2.1
  have w9 := hw.2.2.2.2.2.2.2.2.2
  unfold jwLine at h hf
  apply js_M_readLine
  refine sp_M_isWord (n := 5) (by omega) hR (by decide) (by decide +kernel) ?_
  simp only [jaB_z, Classical.not_not]
  refine ⟨fun q1 => ?_, fun q1 => ?_⟩
  · rw [jaIf1_f q1] at h hf
    refine sp_M_isWord (n := 6) (by omega) hR (by decide) (by decide +kernel) ?_
    simp only [jaB_z, Classical.not_not]
    refine ⟨fun q2 => ?_, fun q2 => ?_⟩
    · rw [jaIf1_f q2] at h hf
      refine sp_M_isWord (n := 0) (by omega) hR (by decide) (by decide +kernel) ?_
      simp only [jaB_z, Classical.not_not]
      refine ⟨fun q3 => ?_, fun q3 => ?_⟩
      · rw [jaIf1_f q3] at h hf
        refine sp_M_isWord (n := 1) (by omega) hR (by decide) (by decide +kernel) ?_
        simp only [jaB_z, Classical.not_not]
        refine ⟨fun q4 => ?_, fun q4 => ?_⟩
        · rw [jaIf1_f q4] at h hf
          refine sp_M_isWord (n := 2) (by omega) hR (by decide) (by decide +kernel) ?_
          simp only [jaB_z, Classical.not_not]
          refine ⟨fun q5 => ?_, fun q5 => ?_⟩
          · rw [jaIf1_f q5] at hf
            exact sp_M_bad (by omega) hR (fun S' a f => ⟨Or.inl rfl, hf 1 i rfl S' a (jmFw.of f (by decide) (by decide))⟩)
          · rw [jaIf1_t q5] at h hf
            exact sp_M_readCopy (by omega) hR hc hw (fun w' i' e S' a b f => ⟨Or.inr rfl, h w' i' e S' a b f⟩) (fun c p e S' a f => ⟨Or.inl rfl, hf c p e S' a f⟩)
        · rw [jaIf1_t q4] at h hf
          exact sp_M_readKey (by omega) hR hc hw (fun w' i' e S' a b f => ⟨Or.inr rfl, h w' i' e S' a b f⟩) (fun c p e S' a f => ⟨Or.inl rfl, hf c p e S' a f⟩)
      · rw [jaIf1_t (show jtK X i = 100 from q3)] at h hf
        exact sp_M_readSite (by omega) hR hc hw (fun w' i' e S' a b f => ⟨Or.inr rfl, h w' i' e S' a b f⟩) (fun c p e S' a f => ⟨Or.inl rfl, hf c p e S' a f⟩)
    · rw [jaIf1_t q2] at h hf
      unfold jwLi at h hf
      refine sp_M_once_1 (by omega) hR o w8 w9 (fun z S1 a1 b1 f1 => ?_) (fun z S1 a1 f1 => ?_)
      · rw [jaIf1_f z] at h hf
        refine ⟨fun y => absurd y (by decide), fun _ => ?_⟩
        refine sp_M_puts (i := i + 1) (by omega) a1 (by omega) (by omega) (by omega) (fun v e v9 S2 a2 b2 f2 => ?_) (fun c p e S2 a2 f2 => ?_)
        · rw [jwB_i e] at h
          refine ⟨fun y => absurd y (by decide), fun _ => ⟨Or.inr rfl, h _ _ rfl S2 ⟨fun j hj => ?_, ?_, ?_⟩ a2 ((jmFw.of f1 (by decide) (by decide)).trans (jmFw.of f2 (by decide) (by decide)))⟩⟩
          · show _ = jaPt w.1 4 (nI v) j
            rw [b2, f1.s 73 (by decide) (by decide)]
            unfold jaPt
            rw [r j hj]
          · rw [f2.f 23 (by decide)]
            exact b1
          · exact jmM_c m ((f2.l 78 (by decide) (by decide)).trans (f1.l 78 (by decide) (by decide))) (jz_c (show jaPt w.1 4 (nI v) 0 = w.1 0 from jaPt_ne (by decide))) (jz_c (show jaPt w.1 4 (nI v) 1 = w.1 1 from jaPt_ne (by decide))) (jz_c (show jaPt w.1 4 (nI v) 2 = w.1 2 from jaPt_ne (by decide)))
        · rw [jwB_l e] at hf
          exact ⟨fun _ => ⟨Or.inl rfl, hf c p rfl S2 a2 ((jmFw.of f1 (by decide) (by decide)).trans (jmFw.of f2 (by decide) (by decide)))⟩, fun y => absurd rfl y⟩
      · rw [jaIf1_t z] at hf
        exact ⟨fun _ => ⟨Or.inl rfl, hf 3 i rfl S1 a1 (jmFw.of f1 (by decide) (by decide))⟩, fun y => absurd rfl y⟩
  · rw [jaIf1_t q1] at h hf
    unfold jwEp at h hf
    refine sp_M_once_0 (by omega) hR o w8 w9 (fun z S1 a1 b1 f1 => ?_) (fun z S1 a1 f1 => ?_)
    · rw [jaIf1_f z] at h hf
      refine ⟨fun y => absurd y (by decide), fun _ => ?_⟩
      refine sp_M_puts (i := i + 1) (by omega) a1 (by omega) (by omega) (by omega) (fun v e v9 S2 a2 b2 f2 => ?_) (fun c p e S2 a2 f2 => ?_)
      · rw [jwB_i e] at h
        refine ⟨fun y => absurd y (by decide), fun _ => ⟨Or.inr rfl, h _ _ rfl S2 ⟨fun j hj => ?_, ?_, ?_⟩ a2 ((jmFw.of f1 (by decide) (by decide)).trans (jmFw.of f2 (by decide) (by decide)))⟩⟩
        · show _ = jaPt w.1 3 (nI v) j
          rw [b2, f1.s 73 (by decide) (by decide)]
          unfold jaPt
          rw [r j hj]
        · rw [f2.f 23 (by decide)]
          exact b1
        · exact jmM_c m ((f2.l 78 (by decide) (by decide)).trans (f1.l 78 (by decide) (by decide))) (jz_c (show jaPt w.1 3 (nI v) 0 = w.1 0 from jaPt_ne (by decide))) (jz_c (show jaPt w.1 3 (nI v) 1 = w.1 1 from jaPt_ne (by decide))) (jz_c (show jaPt w.1 3 (nI v) 2 = w.1 2 from jaPt_ne (by decide)))
      · rw [jwB_l e] at hf
        exact ⟨fun _ => ⟨Or.inl rfl, hf c p rfl S2 a2 ((jmFw.of f1 (by decide) (by decide)).trans (jmFw.of f2 (by decide) (by decide)))⟩, fun y => absurd rfl y⟩
    · rw [jaIf1_t z] at hf
      exact ⟨fun _ => ⟨Or.inl rfl, hf 3 i rfl S1 a1 (jmFw.of f1 (by decide) (by decide))⟩, fun y => absurd rfl y⟩
end
