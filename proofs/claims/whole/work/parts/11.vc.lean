section
/-! of each method and each label of it where its run is cut: what is to be shown for a run from there -/
abbrev jaDe (D : Nat) : jaG := jaCall jaAr jaMt D
abbrev jaC (Γ : jaG) (M : jaM) (Q : jaQ) (a : Nat) (ls : List (Option jaV)) (st : List jaV) (σ : jaT) : Prop := jaRun jaAr Γ M.1 M.2.1 Q jaNoX (jaAt M.1 M.2.1 a) ls st σ
abbrev jm_A_feed : jaM := (jf_A_feed, jp_A_feed, 6)
theorem js_A_feed {D : Nat} {kk : Int32 → jaT → Prop} {σ : jaT} {x1 : Int32} {x2 : Int32} {x3 : Int32} {x4 : Int32} {x5 : Int32} (h :
  ((((σ 0).1 0 0 1) + (nI 20)) ≤ (nI 940) → 
    (jaDe D) jy_A_putBytes [.inr (.inr (0, 0, 0)), .inl x1] σ (jaKv fun σ1 =>
      (jaDe D) jy_A_putBytes [.inr (.inr (0, 0, 0)), .inl x2] σ1 (jaKv fun σ2 =>
        (jaDe D) jy_A_putBytes [.inr (.inr (0, 0, 0)), .inl x3] σ2 (jaKv fun σ3 =>
          (jaDe D) jy_A_putBytes [.inr (.inr (0, 0, 0)), .inl x4] σ3 (jaKv fun σ4 =>
            (jaDe D) jy_A_putBytes [.inr (.inr (0, 0, 0)), .inl x5] σ4 (jaKv fun σ5 =>
              kk ((σ5 0).1 0 0 1) σ5)))))) ∧
  (¬ (((σ 0).1 0 0 1) + (nI 20)) ≤ (nI 940) → kk (-1 : Int32) σ)) :
  jaDe (D + 1) jy_A_feed [.inr (.inr (0, 0, 0)), .inl x1, .inl x2, .inl x3, .inl x4, .inl x5] σ (jaKi kk) :=
  jaCall_intro (mt := jaMt) (y := jy_A_feed) (f := jf_A_feed) (ps := jp_A_feed) (nL := 6) rfl rfl (jaRun_go (jaCall_self jaAr jaMt D) [] 27 _ _ _ _ h)
abbrev jm_A_putBytes : jaM := (jf_A_putBytes, jp_A_putBytes, 3)
def jc_A_putBytes_1 (D : Nat) (kk : jaT → Prop) (x1 : Int32) (x2 : Int32) (σ : jaT) : Prop := jaC (jaDe D) jm_A_putBytes (jaKv kk) 1 [some (.inr (.inr (0, 0, 0))), some (.inl x1), some (.inl x2)] [] σ
theorem js_A_putBytes {D : Nat} {kk : jaT → Prop} {σ : jaT} {x1 : Int32} (h :
  jc_A_putBytes_1 D kk x1 (nI 24) σ) :
  jaDe (D + 1) jy_A_putBytes [.inr (.inr (0, 0, 0)), .inl x1] σ (jaKv kk) :=
  jaCall_intro (mt := jaMt) (y := jy_A_putBytes) (f := jf_A_putBytes) (ps := jp_A_putBytes) (nL := 3) rfl rfl (jaRun_go (jaCall_self jaAr jaMt D) [1] 6 _ _ _ _ h)
theorem jb_A_putBytes_1 {D : Nat} {kk : jaT → Prop} {σ : jaT} {x1 : Int32} {x2 : Int32} (h :
  (x2 < 0 → kk σ) ∧
  (¬ x2 < 0 → 
    ((nI 940) ≤ ((σ 0).1 0 0 1) → jc_A_putBytes_1 D kk x1 (x2 + (-8 : Int32)) σ) ∧
    (¬ (nI 940) ≤ ((σ 0).1 0 0 1) → 
      vp_in ((σ 0).1 0 0 1) 940 ∧ 
      (let σ1 : jaT := jaU σ 0 (jaUI (σ 0) 1 0 (jaIx ((σ 0).1 0 0 1)) (((Int32.toUInt32 x1 >>> (Int32.toUInt32 x2 &&& Int32.toUInt32 31)).toInt32) &&& (nI 255)))
      let σ2 : jaT := jaU σ1 0 (jaUI (σ1 0) 0 0 1 (((σ1 0).1 0 0 1) + (nI 1)))
      jc_A_putBytes_1 D kk x1 (x2 + (-8 : Int32)) σ2)))) :
  jc_A_putBytes_1 D kk x1 x2 σ :=
  jaRun_go (jaCall_self jaAr jaMt D) [1] 28 _ _ _ _ h
abbrev jm_A_end : jaM := (jf_A_end, jp_A_end, 2)
theorem js_A_end {D : Nat} {kk : Int32 → jaT → Prop} {σ : jaT} {x1 : Int32} (h :
  (x1 < 0 → ((nI 0) = 0 ∨ (nI 0) = 1) ∧ kk (nI 0) σ) ∧
  (¬ x1 < 0 → 
    (x1 ≤ ((σ 0).1 0 0 1) → 
      let σ1 : jaT := jaU σ 0 (jaUI (σ 0) 0 0 1 x1)
      ((nI 1) = 0 ∨ (nI 1) = 1) ∧ kk (nI 1) σ1) ∧
    (¬ x1 ≤ ((σ 0).1 0 0 1) → ((nI 0) = 0 ∨ (nI 0) = 1) ∧ kk (nI 0) σ))) :
  jaDe (D + 1) jy_A_end [.inr (.inr (0, 0, 0)), .inl x1] σ (jaKi kk) :=
  jaCall_intro (mt := jaMt) (y := jy_A_end) (f := jf_A_end) (ps := jp_A_end) (nL := 2) rfl rfl (jaRun_go (jaCall_self jaAr jaMt D) [] 14 _ _ _ _ h)
abbrev jm_A_readTape : jaM := (jf_A_readTape, jp_A_readTape, 2)
theorem js_A_readTape {D : Nat} {kk : jaT → Prop} {σ : jaT} {x1 : Int32} (h :
  (jaDe D) jy_Rd_begin [.inr (.inr (2, 0, 0)), .inr (.inr (1, 0, 0)), .inl ((σ 0).1 0 0 1), .inl x1] σ (jaKv fun σ1 =>
    let σ2 : jaT := jaU σ1 0 (jaUI (σ1 0) 0 0 1 (nI 0))
    let σ3 : jaT := jaU σ2 0 (jaUI (σ2 0) 0 0 3 (nI 0))
    kk σ3)) :
  jaDe (D + 1) jy_A_readTape [.inr (.inr (0, 0, 0)), .inl x1] σ (jaKv kk) :=
  jaCall_intro (mt := jaMt) (y := jy_A_readTape) (f := jf_A_readTape) (ps := jp_A_readTape) (nL := 2) rfl rfl (jaRun_go (jaCall_self jaAr jaMt D) [] 18 _ _ _ _ h)
abbrev jm_A_faultBelow : jaM := (jf_A_faultBelow, jp_A_faultBelow, 2)
theorem js_A_faultBelow {D : Nat} {kk : Int32 → jaT → Prop} {σ : jaT} {x1 : Int32} (h :
  let σ1 : jaT := jaU σ 0 (jaUI (σ 0) 0 0 3 ((σ 0).1 2 0 5))
  kk (x1 - ((σ1 0).1 2 0 6)) σ1) :
  jaDe (D + 1) jy_A_faultBelow [.inr (.inr (0, 0, 0)), .inl x1] σ (jaKi kk) :=
  jaCall_intro (mt := jaMt) (y := jy_A_faultBelow) (f := jf_A_faultBelow) (ps := jp_A_faultBelow) (nL := 2) rfl rfl (jaRun_go (jaCall_self jaAr jaMt D) [] 14 _ _ _ _ h)
abbrev jm_A_fault : jaM := (jf_A_fault, jp_A_fault, 1)
theorem js_A_fault {D : Nat} {kk : Int32 → jaT → Prop} {σ : jaT}  (h :
  kk ((σ 0).1 0 0 3) σ) :
  jaDe (D + 1) jy_A_fault [.inr (.inr (0, 0, 0))] σ (jaKi kk) :=
  jaCall_intro (mt := jaMt) (y := jy_A_fault) (f := jf_A_fault) (ps := jp_A_fault) (nL := 1) rfl rfl (jaRun_go (jaCall_self jaAr jaMt D) [] 6 _ _ _ _ h)
abbrev jm_A_world : jaM := (jf_A_world, jp_A_world, 2)
theorem js_A_world {D : Nat} {kk : Int32 → jaT → Prop} {σ : jaT}  (h :
  (jaDe D) jy_A_readTape [.inr (.inr (0, 0, 0)), .inl (nI 900)] σ (jaKv fun σ1 =>
    (jaDe D) jy_Wo_read [.inr (.inr (30, 13, 0)), .inr (.inr (2, 0, 0))] σ1 (jaKi fun r3 σ2 =>
      (0 ≤ r3 → 
        (jaDe D) jy_St_start [.inr (.inr (40, 1, 0)), .inr (.inr (30, 13, 0))] σ2 (jaKv fun σ4 =>
          vp_in ((σ4 0).1 0 0 11) 2 ∧ (jaDe D) jy_Sn_forget [.inr (.inr (20, (0 + (14 + jaIx ((σ4 0).1 0 0 11))), 0))] σ4 (jaKv fun σ5 =>
            (jaDe D) jy_A_forgetKept [.inr (.inr (0, 0, 0))] σ5 (jaKv fun σ6 =>
              kk r3 σ6)))) ∧
      (¬ 0 ≤ r3 → 
        (jaDe D) jy_A_faultBelow [.inr (.inr (0, 0, 0)), .inl (-1 : Int32)] σ2 (jaKi fun r8 σ7 =>
          kk r8 σ7))))) :
  jaDe (D + 1) jy_A_world [.inr (.inr (0, 0, 0))] σ (jaKi kk) :=
  jaCall_intro (mt := jaMt) (y := jy_A_world) (f := jf_A_world) (ps := jp_A_world) (nL := 2) rfl rfl (jaRun_go (jaCall_self jaAr jaMt D) [] 29 _ _ _ _ h)
abbrev jm_A_submit : jaM := (jf_A_submit, jp_A_submit, 2)
theorem js_A_submit {D : Nat} {kk : Int32 → jaT → Prop} {σ : jaT} {x1 : Int32} (h :
  (x1 < 0 → kk (-1000 : Int32) σ) ∧
  (¬ x1 < 0 → 
    (((σ 1).1 30 0 0) ≤ x1 → kk (-1000 : Int32) σ) ∧
    (¬ ((σ 1).1 30 0 0) ≤ x1 → 
      (jaDe D) jy_Sc_isFull [.inr (.inr (54, 1, 0))] σ (jaKi fun r2 σ1 =>
        (r2 = 0 → 
          (jaDe D) jy_A_readTape [.inr (.inr (0, 0, 0)), .inl (nI 200)] σ1 (jaKv fun σ3 =>
            (jaDe D) jy_Sc_read [.inr (.inr (54, 1, 0)), .inr (.inr (2, 0, 0)), .inr (.inr (30, 1, 0)), .inl x1] σ3 (jaKi fun r5 σ4 =>
              (¬ r5 = 0 → 
                (jaDe D) jy_A_keepState [.inr (.inr (0, 0, 0))] σ4 (jaKv fun σ6 =>
                  (jaDe D) jy_St_arriveNew [.inr (.inr (40, 1, 0))] σ6 (jaKi fun r8 σ7 =>
                    kk r8 σ7))) ∧
              (r5 = 0 → 
                (jaDe D) jy_A_faultBelow [.inr (.inr (0, 0, 0)), .inl (-2 : Int32)] σ4 (jaKi fun r10 σ9 =>
                  kk r10 σ9))))) ∧
        (¬ r2 = 0 → kk (-1000 : Int32) σ1))))) :
  jaDe (D + 1) jy_A_submit [.inr (.inr (0, 0, 0)), .inl x1] σ (jaKi kk) :=
  jaCall_intro (mt := jaMt) (y := jy_A_submit) (f := jf_A_submit) (ps := jp_A_submit) (nL := 2) rfl rfl (jaRun_go (jaCall_self jaAr jaMt D) [] 36 _ _ _ _ h)
abbrev jm_A_put : jaM := (jf_A_put, jp_A_put, 4)
theorem js_A_put {D : Nat} {kk : Int32 → jaT → Prop} {σ : jaT} {x1 : Int32} {x2 : Int32} (h :
  (x1 < 0 → kk (-1 : Int32) σ) ∧
  (¬ x1 < 0 → 
    (((σ 1).1 30 0 0) ≤ x1 → kk (-1 : Int32) σ) ∧
    (¬ ((σ 1).1 30 0 0) ≤ x1 → 
      (x2 < 0 → kk (-1 : Int32) σ) ∧
      (¬ x2 < 0 → 
        (x2 < ((σ 1).1 54 0 0) → 
          (jaDe D) jy_St_whyNotPut [.inr (.inr (40, 1, 0)), .inl x2] σ (jaKi fun r2 σ1 =>
            (¬ r2 = 0 → kk r2 σ1) ∧
            (r2 = 0 → 
              (jaDe D) jy_A_keepState [.inr (.inr (0, 0, 0))] σ1 (jaKv fun σ3 =>
                (jaDe D) jy_St_putTrans [.inr (.inr (40, 1, 0)), .inl x1, .inl x2] σ3 (jaKv fun σ4 =>
                  kk r2 σ4))))) ∧
        (¬ x2 < ((σ 1).1 54 0 0) → kk (-1 : Int32) σ))))) :
  jaDe (D + 1) jy_A_put [.inr (.inr (0, 0, 0)), .inl x1, .inl x2] σ (jaKi kk) :=
  jaCall_intro (mt := jaMt) (y := jy_A_put) (f := jf_A_put) (ps := jp_A_put) (nL := 4) rfl rfl (jaRun_go (jaCall_self jaAr jaMt D) [] 36 _ _ _ _ h)
abbrev jm_A_check : jaM := (jf_A_check, jp_A_check, 2)
theorem js_A_check {D : Nat} {kk : Int32 → jaT → Prop} {σ : jaT}  (h :
  (jaDe D) jy_St_whyNotCheck [.inr (.inr (40, 1, 0))] σ (jaKi fun r2 σ1 =>
    (¬ r2 = 0 → kk r2 σ1) ∧
    (r2 = 0 → 
      (jaDe D) jy_A_keepState [.inr (.inr (0, 0, 0))] σ1 (jaKv fun σ3 =>
        (jaDe D) jy_St_beginCheck [.inr (.inr (40, 1, 0))] σ3 (jaKv fun σ4 =>
          kk r2 σ4))))) :
  jaDe (D + 1) jy_A_check [.inr (.inr (0, 0, 0))] σ (jaKi kk) :=
  jaCall_intro (mt := jaMt) (y := jy_A_check) (f := jf_A_check) (ps := jp_A_check) (nL := 2) rfl rfl (jaRun_go (jaCall_self jaAr jaMt D) [] 17 _ _ _ _ h)
abbrev jm_A_crash : jaM := (jf_A_crash, jp_A_crash, 3)
theorem js_A_crash {D : Nat} {kk : Int32 → jaT → Prop} {σ : jaT} {x1 : Int32} (h :
  (x1 < 0 → kk (-1 : Int32) σ) ∧
  (¬ x1 < 0 → 
    (x1 < ((σ 1).1 30 0 2) → 
      (jaDe D) jy_St_whyNotCrash [.inr (.inr (40, 1, 0))] σ (jaKi fun r2 σ1 =>
        (¬ r2 = 0 → kk r2 σ1) ∧
        (r2 = 0 → 
          (jaDe D) jy_A_keepState [.inr (.inr (0, 0, 0))] σ1 (jaKv fun σ3 =>
            (jaDe D) jy_St_crashCopy [.inr (.inr (40, 1, 0)), .inl x1] σ3 (jaKv fun σ4 =>
              kk r2 σ4))))) ∧
    (¬ x1 < ((σ 1).1 30 0 2) → kk (-1 : Int32) σ))) :
  jaDe (D + 1) jy_A_crash [.inr (.inr (0, 0, 0)), .inl x1] σ (jaKi kk) :=
  jaCall_intro (mt := jaMt) (y := jy_A_crash) (f := jf_A_crash) (ps := jp_A_crash) (nL := 3) rfl rfl (jaRun_go (jaCall_self jaAr jaMt D) [] 26 _ _ _ _ h)
abbrev jm_A_ticks : jaM := (jf_A_ticks, jp_A_ticks, 4)
def jc_A_ticks_3 (D : Nat) (kk : Int32 → jaT → Prop) (x1 : Int32) (x2 : Int32) (x3 : Int32) (σ : jaT) : Prop := jaC (jaDe D) jm_A_ticks (jaKi kk) 3 [some (.inr (.inr (0, 0, 0))), some (.inl x1), some (.inl x2), some (.inl x3)] [] σ
theorem js_A_ticks {D : Nat} {kk : Int32 → jaT → Prop} {σ : jaT} {x1 : Int32} (h :
  (x1 < (nI 1) → kk (-1 : Int32) σ) ∧
  (¬ x1 < (nI 1) → 
    (x1 ≤ (nI 60) → 
      (jaDe D) jy_St_ticksLeft [.inr (.inr (40, 1, 0))] σ (jaKi fun r2 σ1 =>
        (jaDe D) jy_JM_min [.inl x1, .inl r2] σ1 (jaKi fun r4 σ3 =>
          (r4 ≤ 0 → kk r4 σ3) ∧
          (¬ r4 ≤ 0 → 
            (jaDe D) jy_A_keepState [.inr (.inr (0, 0, 0))] σ3 (jaKv fun σ5 =>
              jc_A_ticks_3 D kk x1 r4 (nI 0) σ5))))) ∧
    (¬ x1 ≤ (nI 60) → kk (-1 : Int32) σ))) :
  jaDe (D + 1) jy_A_ticks [.inr (.inr (0, 0, 0)), .inl x1] σ (jaKi kk) :=
  jaCall_intro (mt := jaMt) (y := jy_A_ticks) (f := jf_A_ticks) (ps := jp_A_ticks) (nL := 4) rfl rfl (jaRun_go (jaCall_self jaAr jaMt D) [3] 22 _ _ _ _ h)
theorem jb_A_ticks_3 {D : Nat} {kk : Int32 → jaT → Prop} {σ : jaT} {x1 : Int32} {x2 : Int32} {x3 : Int32} (h :
  (x2 ≤ x3 → kk x2 σ) ∧
  (¬ x2 ≤ x3 → 
    (jaDe D) jy_St_passTick [.inr (.inr (40, 1, 0))] σ (jaKv fun σ1 =>
      jc_A_ticks_3 D kk x1 x2 (x3 + (nI 1)) σ1))) :
  jc_A_ticks_3 D kk x1 x2 x3 σ :=
  jaRun_go (jaCall_self jaAr jaMt D) [3] 11 _ _ _ _ h
abbrev jm_A_drawn : jaM := (jf_A_drawn, jp_A_drawn, 4)
theorem js_A_drawn {D : Nat} {kk : Int32 → jaT → Prop} {σ : jaT} {x1 : Int32} {x2 : Int32} (h :
  (x1 < (nI 1) → kk (-1 : Int32) σ) ∧
  (¬ x1 < (nI 1) → 
    (x1 ≤ (nI 60) → 
      (jaDe D) jy_St_ticksLeft [.inr (.inr (40, 1, 0))] σ (jaKi fun r2 σ1 =>
        (jaDe D) jy_JM_min [.inl x1, .inl r2] σ1 (jaKi fun r4 σ3 =>
          (r4 ≤ 0 → kk r4 σ3) ∧
          (¬ r4 ≤ 0 → 
            (jaDe D) jy_A_keepState [.inr (.inr (0, 0, 0))] σ3 (jaKv fun σ5 =>
              (jaDe D) jy_St_drawTicks [.inr (.inr (40, 1, 0)), .inl r4, .inl x2] σ5 (jaKv fun σ6 =>
                kk r4 σ6)))))) ∧
    (¬ x1 ≤ (nI 60) → kk (-1 : Int32) σ))) :
  jaDe (D + 1) jy_A_drawn [.inr (.inr (0, 0, 0)), .inl x1, .inl x2] σ (jaKi kk) :=
  jaCall_intro (mt := jaMt) (y := jy_A_drawn) (f := jf_A_drawn) (ps := jp_A_drawn) (nL := 4) rfl rfl (jaRun_go (jaCall_self jaAr jaMt D) [] 27 _ _ _ _ h)
abbrev jm_A_odds : jaM := (jf_A_odds, jp_A_odds, 5)
def jc_A_odds_3 (D : Nat) (kk : Int32 → jaT → Prop) (x1 : Int32) (x2 : Int32) (x3 : Int32) (x4 : Int32) (σ : jaT) : Prop := jaC (jaDe D) jm_A_odds (jaKi kk) 3 [some (.inr (.inr (0, 0, 0))), some (.inl x1), some (.inl x2), some (.inl x3), some (.inl x4)] [] σ
theorem js_A_odds {D : Nat} {kk : Int32 → jaT → Prop} {σ : jaT} {x1 : Int32} {x2 : Int32} (h :
  (x1 < (nI 1) → kk (-1 : Int32) σ) ∧
  (¬ x1 < (nI 1) → 
    (x1 ≤ (nI 10) → jc_A_odds_3 D kk x1 x2 (nI 0) (nI 0) σ) ∧
    (¬ x1 ≤ (nI 10) → kk (-1 : Int32) σ))) :
  jaDe (D + 1) jy_A_odds [.inr (.inr (0, 0, 0)), .inl x1, .inl x2] σ (jaKi kk) :=
  jaCall_intro (mt := jaMt) (y := jy_A_odds) (f := jf_A_odds) (ps := jp_A_odds) (nL := 5) rfl rfl (jaRun_go (jaCall_self jaAr jaMt D) [3] 14 _ _ _ _ h)
theorem jb_A_odds_3 {D : Nat} {kk : Int32 → jaT → Prop} {σ : jaT} {x1 : Int32} {x2 : Int32} {x3 : Int32} {x4 : Int32} (h :
  (x1 ≤ x4 → kk x3 σ) ∧
  (¬ x1 ≤ x4 → 
    (jaDe D) jy_St_copyFrom [.inr (.inr (40, 2, 0)), .inr (.inr (40, 1, 0))] σ (jaKv fun σ1 =>
      (jaDe D) jy_St_drawTicks [.inr (.inr (40, 2, 0)), .inl (nI 30), .inl (x2 + x4)] σ1 (jaKv fun σ2 =>
        (jaDe D) jy_St_isSame [.inr (.inr (40, 2, 0))] σ2 (jaKi fun r4 σ3 =>
          (r4 = 0 → jc_A_odds_3 D kk x1 x2 x3 (x4 + (nI 1)) σ3) ∧
          (¬ r4 = 0 → jc_A_odds_3 D kk x1 x2 (x3 + (nI 1)) (x4 + (nI 1)) σ3)))))) :
  jc_A_odds_3 D kk x1 x2 x3 x4 σ :=
  jaRun_go (jaCall_self jaAr jaMt D) [3] 26 _ _ _ _ h
abbrev jm_A_book : jaM := (jf_A_book, jp_A_book, 5)
def jc_A_book_3 (D : Nat) (kk : Int32 → jaT → Prop) (x1 : Int32) (x2 : Int32) (x3 : Int32) (x4 : Int32) (σ : jaT) : Prop := jaC (jaDe D) jm_A_book (jaKi kk) 3 [some (.inr (.inr (0, 0, 0))), some (.inl x1), some (.inl x2), some (.inl x3), some (.inl x4)] [] σ
theorem js_A_book {D : Nat} {kk : Int32 → jaT → Prop} {σ : jaT} {x1 : Int32} (h :
  (x1 = 0 → 
    (jaDe D) jy_A_readTape [.inr (.inr (0, 0, 0)), .inl (nI 400)] σ (jaKv fun σ1 =>
      (jaDe D) jy_Bo_read [.inr (.inr (6, 0, 0)), .inr (.inr (2, 0, 0)), .inr (.inr (30, 1, 0))] σ1 (jaKi fun r3 σ2 =>
        (¬ r3 = 0 → 
          (jaDe D) jy_St_copyFrom [.inr (.inr (40, 2, 0)), .inr (.inr (40, 1, 0))] σ2 (jaKv fun σ4 =>
            jc_A_book_3 D kk x1 (nI 0) (nI 0) (nI 0) σ4)) ∧
        (r3 = 0 → 
          (jaDe D) jy_A_faultBelow [.inr (.inr (0, 0, 0)), .inl (-2 : Int32)] σ2 (jaKi fun r6 σ5 =>
            kk r6 σ5))))) ∧
  (¬ x1 = 0 → 
    (x1 = (nI 1) → 
      (jaDe D) jy_A_readTape [.inr (.inr (0, 0, 0)), .inl (nI 400)] σ (jaKv fun σ7 =>
        (jaDe D) jy_Bo_read [.inr (.inr (6, 0, 0)), .inr (.inr (2, 0, 0)), .inr (.inr (30, 1, 0))] σ7 (jaKi fun r9 σ8 =>
          (¬ r9 = 0 → 
            (jaDe D) jy_St_copyFrom [.inr (.inr (40, 2, 0)), .inr (.inr (40, 1, 0))] σ8 (jaKv fun σ10 =>
              jc_A_book_3 D kk x1 (nI 0) (nI 0) (nI 0) σ10)) ∧
          (r9 = 0 → 
            (jaDe D) jy_A_faultBelow [.inr (.inr (0, 0, 0)), .inl (-2 : Int32)] σ8 (jaKi fun r12 σ11 =>
              kk r12 σ11))))) ∧
    (¬ x1 = (nI 1) → kk (-1000 : Int32) σ))) :
  jaDe (D + 1) jy_A_book [.inr (.inr (0, 0, 0)), .inl x1] σ (jaKi kk) :=
  jaCall_intro (mt := jaMt) (y := jy_A_book) (f := jf_A_book) (ps := jp_A_book) (nL := 5) rfl rfl (jaRun_go (jaCall_self jaAr jaMt D) [3] 32 _ _ _ _ h)
set_option maxRecDepth 20000 in
theorem jb_A_book_3 {D : Nat} {kk : Int32 → jaT → Prop} {σ : jaT} {x1 : Int32} {x2 : Int32} {x3 : Int32} {x4 : Int32} (h :
  (((σ 0).1 6 0 0) ≤ x4 → 
    ((nI 1) = 0 ∨ (nI 1) = 1) ∧
    (let σ1 : jaT := jaU σ 0 (jaUI (σ 0) 0 0 17 (nI 1))
    vp_in (nI 0) 4 ∧ 
    (let σ2 : jaT := jaU σ1 0 (jaUI (σ1 0) 10 0 (jaIx (nI 0)) x2)
    vp_in (nI 1) 4 ∧ 
    (let σ3 : jaT := jaU σ2 0 (jaUI (σ2 0) 10 0 (jaIx (nI 1)) x3)
    vp_in (nI 2) 4 ∧ 
    (let σ4 : jaT := jaU σ3 0 (jaUI (σ3 0) 10 0 (jaIx (nI 2)) ((σ3 2).1 40 0 5))
    vp_in (nI 3) 4 ∧ 
    (let σ5 : jaT := jaU σ4 0 (jaUI (σ4 0) 10 0 (jaIx (nI 3)) ((σ4 2).1 60 0 1))
    (¬ x1 = (nI 1) → 
      (¬ x2 = 0 → kk x3 σ5) ∧
      (x2 = 0 → kk (-1 : Int32) σ5)) ∧
    (x1 = (nI 1) → 
      (x3 ≤ 0 → 
        (¬ x2 = 0 → kk x3 σ5) ∧
        (x2 = 0 → kk (-1 : Int32) σ5)) ∧
      (¬ x3 ≤ 0 → 
        (jaDe D) jy_A_keepState [.inr (.inr (0, 0, 0))] σ5 (jaKv fun σ6 =>
          (jaDe D) jy_St_copyFrom [.inr (.inr (40, 1, 0)), .inr (.inr (40, 2, 0))] σ6 (jaKv fun σ7 =>
            (¬ x2 = 0 → kk x3 σ7) ∧
            (x2 = 0 → kk (-1 : Int32) σ7))))))))))) ∧
  (¬ ((σ 0).1 6 0 0) ≤ x4 → 
    (¬ x2 = 0 → 
      ((nI 1) = 0 ∨ (nI 1) = 1) ∧
      (let σ8 : jaT := jaU σ 0 (jaUI (σ 0) 0 0 17 (nI 1))
      vp_in (nI 0) 4 ∧ 
      (let σ9 : jaT := jaU σ8 0 (jaUI (σ8 0) 10 0 (jaIx (nI 0)) x2)
      vp_in (nI 1) 4 ∧ 
      (let σ10 : jaT := jaU σ9 0 (jaUI (σ9 0) 10 0 (jaIx (nI 1)) x3)
      vp_in (nI 2) 4 ∧ 
      (let σ11 : jaT := jaU σ10 0 (jaUI (σ10 0) 10 0 (jaIx (nI 2)) ((σ10 2).1 40 0 5))
      vp_in (nI 3) 4 ∧ 
      (let σ12 : jaT := jaU σ11 0 (jaUI (σ11 0) 10 0 (jaIx (nI 3)) ((σ11 2).1 60 0 1))
      (¬ x1 = (nI 1) → 
        (¬ x2 = 0 → kk x3 σ12) ∧
        (x2 = 0 → kk (-1 : Int32) σ12)) ∧
      (x1 = (nI 1) → 
        (x3 ≤ 0 → 
          (¬ x2 = 0 → kk x3 σ12) ∧
          (x2 = 0 → kk (-1 : Int32) σ12)) ∧
        (¬ x3 ≤ 0 → 
          (jaDe D) jy_A_keepState [.inr (.inr (0, 0, 0))] σ12 (jaKv fun σ13 =>
            (jaDe D) jy_St_copyFrom [.inr (.inr (40, 1, 0)), .inr (.inr (40, 2, 0))] σ13 (jaKv fun σ14 =>
              (¬ x2 = 0 → kk x3 σ14) ∧
              (x2 = 0 → kk (-1 : Int32) σ14))))))))))) ∧
    (x2 = 0 → 
      vp_in x4 40 ∧ (vp_in x4 40 ∧ (vp_in x4 40 ∧ ((jaDe D) jy_St_live [.inr (.inr (40, 2, 0)), .inl ((σ 0).1 7 0 (jaIx x4)), .inl ((σ 0).1 8 0 (jaIx x4)), .inl ((σ 0).1 9 0 (jaIx x4))] σ (jaKi fun r16 σ15 =>
        (¬ r16 = 0 → jc_A_book_3 D kk x1 r16 x3 (x4 + (nI 1)) σ15) ∧
        (r16 = 0 → jc_A_book_3 D kk x1 r16 (x3 + (nI 1)) (x4 + (nI 1)) σ15)))))))) :
  jc_A_book_3 D kk x1 x2 x3 x4 σ :=
  jaRun_go (jaCall_self jaAr jaMt D) [3] 56 _ _ _ _ h
abbrev jm_A_told : jaM := (jf_A_told, jp_A_told, 2)
theorem js_A_told {D : Nat} {kk : Int32 → jaT → Prop} {σ : jaT} {x1 : Int32} (h :
  (((σ 0).1 0 0 17) = 0 → kk (-1 : Int32) σ) ∧
  (¬ ((σ 0).1 0 0 17) = 0 → 
    (x1 < 0 → kk (-1 : Int32) σ) ∧
    (¬ x1 < 0 → 
      ((nI 4) ≤ x1 → kk (-1 : Int32) σ) ∧
      (¬ (nI 4) ≤ x1 → vp_in x1 4 ∧ kk ((σ 0).1 10 0 (jaIx x1)) σ)))) :
  jaDe (D + 1) jy_A_told [.inr (.inr (0, 0, 0)), .inl x1] σ (jaKi kk) :=
  jaCall_intro (mt := jaMt) (y := jy_A_told) (f := jf_A_told) (ps := jp_A_told) (nL := 2) rfl rfl (jaRun_go (jaCall_self jaAr jaMt D) [] 17 _ _ _ _ h)
abbrev jm_A_keepState : jaM := (jf_A_keepState, jp_A_keepState, 1)
theorem js_A_keepState {D : Nat} {kk : jaT → Prop} {σ : jaT}  (h :
  vp_in ((σ 0).1 0 0 8) 8 ∧ ((jaDe D) jy_St_copyFrom [.inr (.inr (40, (0 + (3 + jaIx ((σ 0).1 0 0 8))), 0)), .inr (.inr (40, 1, 0))] σ (jaKv fun σ1 =>
    ((nI 8) ≤ (((σ1 0).1 0 0 8) + (nI 1)) → 
      let σ2 : jaT := jaU σ1 0 (jaUI (σ1 0) 0 0 8 (nI 0))
      (jaDe D) jy_JM_min [.inl (((σ2 0).1 0 0 9) + (nI 1)), .inl (nI 8)] σ2 (jaKi fun r4 σ3 =>
        let σ5 : jaT := jaU σ3 0 (jaUI (σ3 0) 0 0 9 r4)
        kk σ5)) ∧
    (¬ (nI 8) ≤ (((σ1 0).1 0 0 8) + (nI 1)) → 
      let σ6 : jaT := jaU σ1 0 (jaUI (σ1 0) 0 0 8 (((σ1 0).1 0 0 8) + (nI 1)))
      (jaDe D) jy_JM_min [.inl (((σ6 0).1 0 0 9) + (nI 1)), .inl (nI 8)] σ6 (jaKi fun r8 σ7 =>
        let σ9 : jaT := jaU σ7 0 (jaUI (σ7 0) 0 0 9 r8)
        kk σ9))))) :
  jaDe (D + 1) jy_A_keepState [.inr (.inr (0, 0, 0))] σ (jaKv kk) :=
  jaCall_intro (mt := jaMt) (y := jy_A_keepState) (f := jf_A_keepState) (ps := jp_A_keepState) (nL := 1) rfl rfl (jaRun_go (jaCall_self jaAr jaMt D) [] 33 _ _ _ _ h)
abbrev jm_A_forgetKept : jaM := (jf_A_forgetKept, jp_A_forgetKept, 1)
theorem js_A_forgetKept {D : Nat} {kk : jaT → Prop} {σ : jaT}  (h :
  let σ1 : jaT := jaU σ 0 (jaUI (σ 0) 0 0 9 (nI 0))
  let σ2 : jaT := jaU σ1 0 (jaUI (σ1 0) 0 0 8 (nI 0))
  kk σ2) :
  jaDe (D + 1) jy_A_forgetKept [.inr (.inr (0, 0, 0))] σ (jaKv kk) :=
  jaCall_intro (mt := jaMt) (y := jy_A_forgetKept) (f := jf_A_forgetKept) (ps := jp_A_forgetKept) (nL := 1) rfl rfl (jaRun_go (jaCall_self jaAr jaMt D) [] 10 _ _ _ _ h)
abbrev jm_A_undo : jaM := (jf_A_undo, jp_A_undo, 1)
theorem js_A_undo {D : Nat} {kk : Int32 → jaT → Prop} {σ : jaT}  (h :
  (¬ ((σ 0).1 0 0 9) = 0 → 
    (((σ 0).1 0 0 8) ≤ 0 → 
      let σ1 : jaT := jaU σ 0 (jaUI (σ 0) 0 0 8 (nI 7))
      let σ2 : jaT := jaU σ1 0 (jaUI (σ1 0) 0 0 9 (((σ1 0).1 0 0 9) - (nI 1)))
      vp_in ((σ2 0).1 0 0 8) 8 ∧ (jaDe D) jy_St_copyFrom [.inr (.inr (40, 1, 0)), .inr (.inr (40, (0 + (3 + jaIx ((σ2 0).1 0 0 8))), 0))] σ2 (jaKv fun σ3 =>
        kk ((σ3 0).1 0 0 9) σ3)) ∧
    (¬ ((σ 0).1 0 0 8) ≤ 0 → 
      let σ4 : jaT := jaU σ 0 (jaUI (σ 0) 0 0 8 (((σ 0).1 0 0 8) - (nI 1)))
      let σ5 : jaT := jaU σ4 0 (jaUI (σ4 0) 0 0 9 (((σ4 0).1 0 0 9) - (nI 1)))
      vp_in ((σ5 0).1 0 0 8) 8 ∧ (jaDe D) jy_St_copyFrom [.inr (.inr (40, 1, 0)), .inr (.inr (40, (0 + (3 + jaIx ((σ5 0).1 0 0 8))), 0))] σ5 (jaKv fun σ6 =>
        kk ((σ6 0).1 0 0 9) σ6))) ∧
  (((σ 0).1 0 0 9) = 0 → kk (-1 : Int32) σ)) :
  jaDe (D + 1) jy_A_undo [.inr (.inr (0, 0, 0))] σ (jaKi kk) :=
  jaCall_intro (mt := jaMt) (y := jy_A_undo) (f := jf_A_undo) (ps := jp_A_undo) (nL := 1) rfl rfl (jaRun_go (jaCall_self jaAr jaMt D) [] 33 _ _ _ _ h)
abbrev jm_A_image : jaM := (jf_A_image, jp_A_image, 2)
theorem js_A_image {D : Nat} {kk : Int32 → jaT → Prop} {σ : jaT} {x1 : Int32} (h :
  (x1 < 0 → ((nI 0) = 0 ∨ (nI 0) = 1) ∧ kk (nI 0) σ) ∧
  (¬ x1 < 0 → 
    (x1 < (nI 2) → 
      vp_in x1 2 ∧ ((jaDe D) jy_St_copyFrom [.inr (.inr (40, (0 + (11 + jaIx x1)), 0)), .inr (.inr (40, 1, 0))] σ (jaKv fun σ1 =>
        vp_in x1 2 ∧ (vp_in ((σ1 0).1 0 0 11) 2 ∧ ((jaDe D) jy_Sn_copyFrom [.inr (.inr (20, (0 + (16 + jaIx x1)), 0)), .inr (.inr (20, (0 + (14 + jaIx ((σ1 0).1 0 0 11))), 0))] σ1 (jaKv fun σ2 =>
          vp_in x1 2 ∧ ((nI 1) = 0 ∨ (nI 1) = 1) ∧ 
          (let σ3 : jaT := jaU σ2 0 (jaUI (σ2 0) 15 0 (jaIx x1) (nI 1))
          ((nI 1) = 0 ∨ (nI 1) = 1) ∧ kk (nI 1) σ3))))))) ∧
    (¬ x1 < (nI 2) → ((nI 0) = 0 ∨ (nI 0) = 1) ∧ kk (nI 0) σ))) :
  jaDe (D + 1) jy_A_image [.inr (.inr (0, 0, 0)), .inl x1] σ (jaKi kk) :=
  jaCall_intro (mt := jaMt) (y := jy_A_image) (f := jf_A_image) (ps := jp_A_image) (nL := 2) rfl rfl (jaRun_go (jaCall_self jaAr jaMt D) [] 32 _ _ _ _ h)
abbrev jm_A_restore : jaM := (jf_A_restore, jp_A_restore, 2)
theorem js_A_restore {D : Nat} {kk : Int32 → jaT → Prop} {σ : jaT} {x1 : Int32} (h :
  (x1 < 0 → ((nI 0) = 0 ∨ (nI 0) = 1) ∧ kk (nI 0) σ) ∧
  (¬ x1 < 0 → 
    ((nI 2) ≤ x1 → ((nI 0) = 0 ∨ (nI 0) = 1) ∧ kk (nI 0) σ) ∧
    (¬ (nI 2) ≤ x1 → 
      vp_in x1 2 ∧ ((¬ ((σ 0).1 15 0 (jaIx x1)) = 0 → 
        vp_in x1 2 ∧ ((jaDe D) jy_St_copyFrom [.inr (.inr (40, 1, 0)), .inr (.inr (40, (0 + (11 + jaIx x1)), 0))] σ (jaKv fun σ1 =>
          vp_in ((σ1 0).1 0 0 11) 2 ∧ (vp_in x1 2 ∧ ((jaDe D) jy_Sn_copyFrom [.inr (.inr (20, (0 + (14 + jaIx ((σ1 0).1 0 0 11))), 0)), .inr (.inr (20, (0 + (16 + jaIx x1)), 0))] σ1 (jaKv fun σ2 =>
            (jaDe D) jy_A_forgetKept [.inr (.inr (0, 0, 0))] σ2 (jaKv fun σ3 =>
              ((nI 1) = 0 ∨ (nI 1) = 1) ∧ kk (nI 1) σ3))))))) ∧
      (((σ 0).1 15 0 (jaIx x1)) = 0 → ((nI 0) = 0 ∨ (nI 0) = 1) ∧ kk (nI 0) σ))))) :
  jaDe (D + 1) jy_A_restore [.inr (.inr (0, 0, 0)), .inl x1] σ (jaKi kk) :=
  jaCall_intro (mt := jaMt) (y := jy_A_restore) (f := jf_A_restore) (ps := jp_A_restore) (nL := 2) rfl rfl (jaRun_go (jaCall_self jaAr jaMt D) [] 34 _ _ _ _ h)
abbrev jm_A_count : jaM := (jf_A_count, jp_A_count, 2)
theorem js_A_count {D : Nat} {kk : Int32 → jaT → Prop} {σ : jaT} {x1 : Int32} (h :
  (x1.toInt < 0 ∨ 5 < x1.toInt → kk (-1 : Int32) σ) ∧
  (x1 = nI 0 → kk ((σ 1).1 30 0 0) σ) ∧
  (x1 = nI 1 → kk ((σ 1).1 30 0 1) σ) ∧
  (x1 = nI 2 → kk ((σ 1).1 30 0 2) σ) ∧
  (x1 = nI 3 → kk ((σ 1).1 30 0 3) σ) ∧
  (x1 = nI 4 → kk ((σ 1).1 30 0 4) σ) ∧
  (x1 = nI 5 → kk ((σ 0).1 0 0 1) σ) ∧ True) :
  jaDe (D + 1) jy_A_count [.inr (.inr (0, 0, 0)), .inl x1] σ (jaKi kk) :=
  jaCall_intro (mt := jaMt) (y := jy_A_count) (f := jf_A_count) (ps := jp_A_count) (nL := 2) rfl rfl (jaRun_go (jaCall_self jaAr jaMt D) [] 10 _ _ _ _ h)
abbrev jm_A_now : jaM := (jf_A_now, jp_A_now, 3)
theorem js_A_now {D : Nat} {kk : Int32 → jaT → Prop} {σ : jaT} {x1 : Int32} (h :
  (x1.toInt < 0 ∨ 8 < x1.toInt → kk (-1 : Int32) σ) ∧
  (x1 = nI 0 → kk ((σ 1).1 40 0 5) σ) ∧
  (x1 = nI 1 → kk ((σ 1).1 54 0 0) σ) ∧
  (x1 = nI 2 → kk ((σ 1).1 60 0 1) σ) ∧
  (x1 = nI 3 → kk (((σ 1).1 60 0 0) - ((σ 1).1 60 0 1)) σ) ∧
  (x1 = nI 4 → 
    (((σ 1).1 44 0 0) = 0 → kk (nI 0) σ) ∧
    (¬ ((σ 1).1 44 0 0) = 0 → kk (nI 1) σ)) ∧
  (x1 = nI 5 → 
    (((σ 1).1 44 0 0) = 0 → kk (-1 : Int32) σ) ∧
    (¬ ((σ 1).1 44 0 0) = 0 → kk ((σ 1).1 44 0 1) σ)) ∧
  (x1 = nI 6 → 
    (((σ 1).1 44 0 0) = 0 → kk (nI 0) σ) ∧
    (¬ ((σ 1).1 44 0 0) = 0 → kk (((nI 1) <<< (((σ 1).1 44 0 2) &&& 31)) - (nI 1)) σ)) ∧
  (x1 = nI 7 → 
    (((σ 1).1 44 0 0) = 0 → kk (nI 0) σ) ∧
    (¬ ((σ 1).1 44 0 0) = 0 → kk ((σ 1).1 44 0 3) σ)) ∧
  (x1 = nI 8 → kk ((σ 1).1 44 0 6) σ) ∧ True) :
  jaDe (D + 1) jy_A_now [.inr (.inr (0, 0, 0)), .inl x1] σ (jaKi kk) :=
  jaCall_intro (mt := jaMt) (y := jy_A_now) (f := jf_A_now) (ps := jp_A_now) (nL := 3) rfl rfl (jaRun_go (jaCall_self jaAr jaMt D) [] 20 _ _ _ _ h)
abbrev jm_A_isKey : jaM := (jf_A_isKey, jp_A_isKey, 2)
theorem js_A_isKey {D : Nat} {kk : Int32 → jaT → Prop} {σ : jaT} {x1 : Int32} (h :
  (x1 < 0 → ((nI 0) = 0 ∨ (nI 0) = 1) ∧ kk (nI 0) σ) ∧
  (¬ x1 < 0 → 
    (((σ 1).1 30 0 1) ≤ x1 → ((nI 0) = 0 ∨ (nI 0) = 1) ∧ kk (nI 0) σ) ∧
    (¬ ((σ 1).1 30 0 1) ≤ x1 → ((nI 1) = 0 ∨ (nI 1) = 1) ∧ kk (nI 1) σ))) :
  jaDe (D + 1) jy_A_isKey [.inr (.inr (0, 0, 0)), .inl x1] σ (jaKi kk) :=
  jaCall_intro (mt := jaMt) (y := jy_A_isKey) (f := jf_A_isKey) (ps := jp_A_isKey) (nL := 2) rfl rfl (jaRun_go (jaCall_self jaAr jaMt D) [] 14 _ _ _ _ h)
abbrev jm_A_isCopy : jaM := (jf_A_isCopy, jp_A_isCopy, 2)
theorem js_A_isCopy {D : Nat} {kk : Int32 → jaT → Prop} {σ : jaT} {x1 : Int32} (h :
  (x1 < 0 → ((nI 0) = 0 ∨ (nI 0) = 1) ∧ kk (nI 0) σ) ∧
  (¬ x1 < 0 → 
    (((σ 1).1 30 0 2) ≤ x1 → ((nI 0) = 0 ∨ (nI 0) = 1) ∧ kk (nI 0) σ) ∧
    (¬ ((σ 1).1 30 0 2) ≤ x1 → ((nI 1) = 0 ∨ (nI 1) = 1) ∧ kk (nI 1) σ))) :
  jaDe (D + 1) jy_A_isCopy [.inr (.inr (0, 0, 0)), .inl x1] σ (jaKi kk) :=
  jaCall_intro (mt := jaMt) (y := jy_A_isCopy) (f := jf_A_isCopy) (ps := jp_A_isCopy) (nL := 2) rfl rfl (jaRun_go (jaCall_self jaAr jaMt D) [] 14 _ _ _ _ h)
abbrev jm_A_isOrdered : jaM := (jf_A_isOrdered, jp_A_isOrdered, 2)
theorem js_A_isOrdered {D : Nat} {kk : Int32 → jaT → Prop} {σ : jaT} {x1 : Int32} (h :
  (x1 < 0 → ((nI 0) = 0 ∨ (nI 0) = 1) ∧ kk (nI 0) σ) ∧
  (¬ x1 < 0 → 
    (((σ 1).1 60 0 1) ≤ x1 → ((nI 0) = 0 ∨ (nI 0) = 1) ∧ kk (nI 0) σ) ∧
    (¬ ((σ 1).1 60 0 1) ≤ x1 → ((nI 1) = 0 ∨ (nI 1) = 1) ∧ kk (nI 1) σ))) :
  jaDe (D + 1) jy_A_isOrdered [.inr (.inr (0, 0, 0)), .inl x1] σ (jaKi kk) :=
  jaCall_intro (mt := jaMt) (y := jy_A_isOrdered) (f := jf_A_isOrdered) (ps := jp_A_isOrdered) (nL := 2) rfl rfl (jaRun_go (jaCall_self jaAr jaMt D) [] 14 _ _ _ _ h)
abbrev jm_A_trans : jaM := (jf_A_trans, jp_A_trans, 3)
theorem js_A_trans {D : Nat} {kk : Int32 → jaT → Prop} {σ : jaT} {x1 : Int32} {x2 : Int32} (h :
  (x1 < 0 → kk (-1 : Int32) σ) ∧
  (¬ x1 < 0 → 
    (x1 < ((σ 1).1 54 0 0) → 
      (x2.toInt < 0 ∨ 4 < x2.toInt → kk (-1 : Int32) σ) ∧
      (x2 = nI 0 → vp_in x1 24 ∧ kk ((σ 1).1 55 0 (jaIx x1)) σ) ∧
      (x2 = nI 1 → vp_in x1 24 ∧ kk ((σ 1).1 56 0 (jaIx x1)) σ) ∧
      (x2 = nI 2 → 
        (jaDe D) jy_En_countOf [.inr (.inr (60, 1, 0)), .inl x1] σ (jaKi fun r2 σ1 =>
          kk r2 σ1)) ∧
      (x2 = nI 3 → 
        (jaDe D) jy_En_lastPlaceOf [.inr (.inr (60, 1, 0)), .inl x1] σ (jaKi fun r4 σ3 =>
          kk r4 σ3)) ∧
      (x2 = nI 4 → vp_in x1 24 ∧ kk ((σ 1).1 57 0 (jaIx x1)) σ) ∧ True) ∧
    (¬ x1 < ((σ 1).1 54 0 0) → kk (-1 : Int32) σ))) :
  jaDe (D + 1) jy_A_trans [.inr (.inr (0, 0, 0)), .inl x1, .inl x2] σ (jaKi kk) :=
  jaCall_intro (mt := jaMt) (y := jy_A_trans) (f := jf_A_trans) (ps := jp_A_trans) (nL := 3) rfl rfl (jaRun_go (jaCall_self jaAr jaMt D) [] 20 _ _ _ _ h)
abbrev jm_A_arrived : jaM := (jf_A_arrived, jp_A_arrived, 5)
def jc_A_arrived_3 (D : Nat) (kk : Int32 → jaT → Prop) (x1 : Int32) (x2 : Int32) (x3 : Int32) (x4 : Int32) (σ : jaT) : Prop := jaC (jaDe D) jm_A_arrived (jaKi kk) 3 [some (.inr (.inr (0, 0, 0))), some (.inl x1), some (.inl x2), some (.inl x3), some (.inl x4)] [] σ
theorem js_A_arrived {D : Nat} {kk : Int32 → jaT → Prop} {σ : jaT} {x1 : Int32} {x2 : Int32} (h :
  (x1 < 0 → kk (-1 : Int32) σ) ∧
  (¬ x1 < 0 → 
    (((σ 1).1 30 0 0) ≤ x1 → kk (-1 : Int32) σ) ∧
    (¬ ((σ 1).1 30 0 0) ≤ x1 → 
      (0 ≤ x2 → jc_A_arrived_3 D kk x1 x2 (nI 0) (nI 0) σ) ∧
      (¬ 0 ≤ x2 → kk (-1 : Int32) σ)))) :
  jaDe (D + 1) jy_A_arrived [.inr (.inr (0, 0, 0)), .inl x1, .inl x2] σ (jaKi kk) :=
  jaCall_intro (mt := jaMt) (y := jy_A_arrived) (f := jf_A_arrived) (ps := jp_A_arrived) (nL := 5) rfl rfl (jaRun_go (jaCall_self jaAr jaMt D) [3] 18 _ _ _ _ h)
theorem jb_A_arrived_3 {D : Nat} {kk : Int32 → jaT → Prop} {σ : jaT} {x1 : Int32} {x2 : Int32} {x3 : Int32} {x4 : Int32} (h :
  (((σ 1).1 60 0 0) ≤ x4 → kk (-1 : Int32) σ) ∧
  (¬ ((σ 1).1 60 0 0) ≤ x4 → 
    (jaDe D) jy_St_isArrivedAt [.inr (.inr (40, 1, 0)), .inl x4, .inl x1] σ (jaKi fun r2 σ1 =>
      (r2 = 0 → jc_A_arrived_3 D kk x1 x2 x3 (x4 + (nI 1)) σ1) ∧
      (¬ r2 = 0 → 
        (¬ x3 = x2 → jc_A_arrived_3 D kk x1 x2 (x3 + (nI 1)) (x4 + (nI 1)) σ1) ∧
        (x3 = x2 → vp_in x4 64 ∧ kk ((σ1 1).1 61 0 (jaIx x4)) σ1))))) :
  jc_A_arrived_3 D kk x1 x2 x3 x4 σ :=
  jaRun_go (jaCall_self jaAr jaMt D) [3] 25 _ _ _ _ h
abbrev jm_A_entry : jaM := (jf_A_entry, jp_A_entry, 4)
theorem js_A_entry {D : Nat} {kk : Int32 → jaT → Prop} {σ : jaT} {x1 : Int32} {x2 : Int32} (h :
  (jaDe D) jy_A_isOrdered [.inr (.inr (0, 0, 0)), .inl x1] σ (jaKi fun r2 σ1 =>
    (¬ r2 = 0 → 
      vp_in x1 40 ∧ ((x2.toInt < 0 ∨ 5 < x2.toInt → kk (-1 : Int32) σ1) ∧
      (x2 = nI 0 → 
        vp_in ((σ1 1).1 68 0 (jaIx x1)) 64 ∧ kk ((σ1 1).1 61 0 (jaIx ((σ1 1).1 68 0 (jaIx x1)))) σ1) ∧
      (x2 = nI 1 → 
        (jaDe D) jy_St_siteOf [.inr (.inr (40, 1, 0)), .inl ((σ1 1).1 68 0 (jaIx x1))] σ1 (jaKi fun r4 σ3 =>
          kk r4 σ3)) ∧
      (x2 = nI 2 → 
        vp_in ((σ1 1).1 68 0 (jaIx x1)) 64 ∧ kk ((σ1 1).1 62 0 (jaIx ((σ1 1).1 68 0 (jaIx x1)))) σ1) ∧
      (x2 = nI 3 → 
        vp_in ((σ1 1).1 68 0 (jaIx x1)) 64 ∧ kk ((σ1 1).1 63 0 (jaIx ((σ1 1).1 68 0 (jaIx x1)))) σ1) ∧
      (x2 = nI 4 → 
        vp_in ((σ1 1).1 68 0 (jaIx x1)) 64 ∧ ((((σ1 1).1 64 0 (jaIx ((σ1 1).1 68 0 (jaIx x1)))) = 0 → kk (nI 0) σ1) ∧
        (¬ ((σ1 1).1 64 0 (jaIx ((σ1 1).1 68 0 (jaIx x1)))) = 0 → kk (nI 1) σ1))) ∧
      (x2 = nI 5 → 
        (jaDe D) jy_En_conflictsAhead [.inr (.inr (60, 1, 0)), .inl x1] σ1 (jaKi fun r6 σ5 =>
          kk r6 σ5)) ∧ True)) ∧
    (r2 = 0 → kk (-1 : Int32) σ1))) :
  jaDe (D + 1) jy_A_entry [.inr (.inr (0, 0, 0)), .inl x1, .inl x2] σ (jaKi kk) :=
  jaCall_intro (mt := jaMt) (y := jy_A_entry) (f := jf_A_entry) (ps := jp_A_entry) (nL := 4) rfl rfl (jaRun_go (jaCall_self jaAr jaMt D) [] 26 _ _ _ _ h)
abbrev jm_A_how : jaM := (jf_A_how, jp_A_how, 3)
theorem js_A_how {D : Nat} {kk : Int32 → jaT → Prop} {σ : jaT} {x1 : Int32} {x2 : Int32} (h :
  (jaDe D) jy_A_isCopy [.inr (.inr (0, 0, 0)), .inl x1] σ (jaKi fun r2 σ1 =>
    (r2 = 0 → kk (-1 : Int32) σ1) ∧
    (¬ r2 = 0 → 
      (jaDe D) jy_A_isOrdered [.inr (.inr (0, 0, 0)), .inl x2] σ1 (jaKi fun r4 σ3 =>
        (r4 = 0 → kk (-1 : Int32) σ3) ∧
        (¬ r4 = 0 → 
          vp_in x1 3 ∧ (vp_in x2 40 ∧ kk ((σ3 1).1 52 (jaIx x1) (jaIx x2)) σ3)))))) :
  jaDe (D + 1) jy_A_how [.inr (.inr (0, 0, 0)), .inl x1, .inl x2] σ (jaKi kk) :=
  jaCall_intro (mt := jaMt) (y := jy_A_how) (f := jf_A_how) (ps := jp_A_how) (nL := 3) rfl rfl (jaRun_go (jaCall_self jaAr jaMt D) [] 21 _ _ _ _ h)
abbrev jm_A_foreseen : jaM := (jf_A_foreseen, jp_A_foreseen, 4)
set_option maxRecDepth 20000 in
theorem js_A_foreseen {D : Nat} {kk : Int32 → jaT → Prop} {σ : jaT} {x1 : Int32} {x2 : Int32} (h :
  (jaDe D) jy_A_isOrdered [.inr (.inr (0, 0, 0)), .inl x1] σ (jaKi fun r2 σ1 =>
    (r2 = 0 → kk (-1 : Int32) σ1) ∧
    (¬ r2 = 0 → 
      (0 ≤ x2 → 
        vp_in x1 40 ∧ (vp_in ((σ1 1).1 68 0 (jaIx x1)) 64 ∧ (vp_in ((σ1 1).1 61 0 (jaIx ((σ1 1).1 68 0 (jaIx x1)))) 24 ∧ ((x2 < ((σ1 1).1 57 0 (jaIx ((σ1 1).1 61 0 (jaIx ((σ1 1).1 68 0 (jaIx x1)))))) → 
          vp_in ((((σ1 1).1 68 0 (jaIx x1)) * (nI 4)) + x2) 256 ∧ kk ((σ1 1).1 67 0 (jaIx ((((σ1 1).1 68 0 (jaIx x1)) * (nI 4)) + x2))) σ1) ∧
        (¬ x2 < ((σ1 1).1 57 0 (jaIx ((σ1 1).1 61 0 (jaIx ((σ1 1).1 68 0 (jaIx x1)))))) → kk (-1 : Int32) σ1))))) ∧
      (¬ 0 ≤ x2 → kk (-1 : Int32) σ1)))) :
  jaDe (D + 1) jy_A_foreseen [.inr (.inr (0, 0, 0)), .inl x1, .inl x2] σ (jaKi kk) :=
  jaCall_intro (mt := jaMt) (y := jy_A_foreseen) (f := jf_A_foreseen) (ps := jp_A_foreseen) (nL := 4) rfl rfl (jaRun_go (jaCall_self jaAr jaMt D) [] 40 _ _ _ _ h)
abbrev jm_A_asks : jaM := (jf_A_asks, jp_A_asks, 4)
theorem js_A_asks {D : Nat} {kk : Int32 → jaT → Prop} {σ : jaT} {x1 : Int32} {x2 : Int32} {x3 : Int32} (h :
  (jaDe D) jy_A_isCopy [.inr (.inr (0, 0, 0)), .inl x1] σ (jaKi fun r2 σ1 =>
    (r2 = 0 → kk (-1 : Int32) σ1) ∧
    (¬ r2 = 0 → 
      (jaDe D) jy_A_isKey [.inr (.inr (0, 0, 0)), .inl x2] σ1 (jaKi fun r4 σ3 =>
        (r4 = 0 → kk (-1 : Int32) σ3) ∧
        (¬ r4 = 0 → 
          (x3 < 0 → kk (-1 : Int32) σ3) ∧
          (¬ x3 < 0 → 
            (jaDe D) jy_St_whoAsks [.inr (.inr (40, 1, 0)), .inl x1, .inl x2, .inl x3] σ3 (jaKi fun r6 σ5 =>
              kk r6 σ5))))))) :
  jaDe (D + 1) jy_A_asks [.inr (.inr (0, 0, 0)), .inl x1, .inl x2, .inl x3] σ (jaKi kk) :=
  jaCall_intro (mt := jaMt) (y := jy_A_asks) (f := jf_A_asks) (ps := jp_A_asks) (nL := 4) rfl rfl (jaRun_go (jaCall_self jaAr jaMt D) [] 21 _ _ _ _ h)
abbrev jm_A_ready : jaM := (jf_A_ready, jp_A_ready, 7)
def jc_A_ready_3 (D : Nat) (kk : Int32 → jaT → Prop) (x1 : Int32) (x2 : Int32) (x3 : Int64) (x5 : Int32) (x6 : Int32) (σ : jaT) : Prop := jaC (jaDe D) jm_A_ready (jaKi kk) 3 [some (.inr (.inr (0, 0, 0))), some (.inl x1), some (.inl x2), some (.inr (.inl x3)), none, some (.inl x5), some (.inl x6)] [] σ
theorem js_A_ready {D : Nat} {kk : Int32 → jaT → Prop} {σ : jaT} {x1 : Int32} {x2 : Int32} (h :
  (jaDe D) jy_A_isCopy [.inr (.inr (0, 0, 0)), .inl x1] σ (jaKi fun r2 σ1 =>
    (r2 = 0 → kk (-1 : Int32) σ1) ∧
    (¬ r2 = 0 → 
      (0 ≤ x2 → 
        (jaDe D) jy_St_readyPlaces [.inr (.inr (40, 1, 0)), .inl x1] σ1 (jaKl fun r4 σ3 =>
          jc_A_ready_3 D kk x1 x2 r4 (nI 0) (nI 0) σ3)) ∧
      (¬ 0 ≤ x2 → kk (-1 : Int32) σ1)))) :
  jaDe (D + 1) jy_A_ready [.inr (.inr (0, 0, 0)), .inl x1, .inl x2] σ (jaKi kk) :=
  jaCall_intro (mt := jaMt) (y := jy_A_ready) (f := jf_A_ready) (ps := jp_A_ready) (nL := 7) rfl rfl (jaRun_go (jaCall_self jaAr jaMt D) [3] 19 _ _ _ _ h)
theorem jb_A_ready_3 {D : Nat} {kk : Int32 → jaT → Prop} {σ : jaT} {x1 : Int32} {x2 : Int32} {x3 : Int64} {x5 : Int32} {x6 : Int32} (h :
  (((σ 1).1 60 0 1) ≤ x6 → kk (-1 : Int32) σ) ∧
  (¬ ((σ 1).1 60 0 1) ≤ x6 → 
    (¬ (lg_cmp (((Int64.toUInt64 x3 >>> (Int64.toUInt64 (Int32.toInt64 x6) &&& Int64.toUInt64 63)).toInt64) &&& (Int64.ofNat 1)) (Int64.ofNat 1)) = 0 → jc_A_ready_3 D kk x1 x2 x3 x5 (x6 + (nI 1)) σ) ∧
    ((lg_cmp (((Int64.toUInt64 x3 >>> (Int64.toUInt64 (Int32.toInt64 x6) &&& Int64.toUInt64 63)).toInt64) &&& (Int64.ofNat 1)) (Int64.ofNat 1)) = 0 → 
      (¬ x5 = x2 → jc_A_ready_3 D kk x1 x2 x3 (x5 + (nI 1)) (x6 + (nI 1)) σ) ∧
      (x5 = x2 → kk x6 σ)))) :
  jc_A_ready_3 D kk x1 x2 x3 x5 x6 σ :=
  jaRun_go (jaCall_self jaAr jaMt D) [3] 24 _ _ _ _ h
abbrev jm_A_waits : jaM := (jf_A_waits, jp_A_waits, 3)
theorem js_A_waits {D : Nat} {kk : Int32 → jaT → Prop} {σ : jaT} {x1 : Int32} {x2 : Int32} (h :
  (jaDe D) jy_A_isCopy [.inr (.inr (0, 0, 0)), .inl x1] σ (jaKi fun r2 σ1 =>
    (r2 = 0 → kk (-1 : Int32) σ1) ∧
    (¬ r2 = 0 → 
      (jaDe D) jy_A_isOrdered [.inr (.inr (0, 0, 0)), .inl x2] σ1 (jaKi fun r4 σ3 =>
        (r4 = 0 → kk (-1 : Int32) σ3) ∧
        (¬ r4 = 0 → 
          (jaDe D) jy_St_countAwaited [.inr (.inr (40, 1, 0)), .inl x1, .inl x2] σ3 (jaKi fun r6 σ5 =>
            kk r6 σ5)))))) :
  jaDe (D + 1) jy_A_waits [.inr (.inr (0, 0, 0)), .inl x1, .inl x2] σ (jaKi kk) :=
  jaCall_intro (mt := jaMt) (y := jy_A_waits) (f := jf_A_waits) (ps := jp_A_waits) (nL := 3) rfl rfl (jaRun_go (jaCall_self jaAr jaMt D) [] 18 _ _ _ _ h)
abbrev jm_A_same : jaM := (jf_A_same, jp_A_same, 1)
theorem js_A_same {D : Nat} {kk : Int32 → jaT → Prop} {σ : jaT}  (h :
  (jaDe D) jy_St_isSame [.inr (.inr (40, 1, 0))] σ (jaKi fun r2 σ1 =>
    (r2 = 0 → kk (nI 0) σ1) ∧
    (¬ r2 = 0 → kk (nI 1) σ1))) :
  jaDe (D + 1) jy_A_same [.inr (.inr (0, 0, 0))] σ (jaKi kk) :=
  jaCall_intro (mt := jaMt) (y := jy_A_same) (f := jf_A_same) (ps := jp_A_same) (nL := 1) rfl rfl (jaRun_go (jaCall_self jaAr jaMt D) [] 10 _ _ _ _ h)
abbrev jm_A_chain : jaM := (jf_A_chain, jp_A_chain, 1)
theorem js_A_chain {D : Nat} {kk : Int32 → jaT → Prop} {σ : jaT}  (h :
  (jaDe D) jy_En_longestRow [.inr (.inr (60, 1, 0)), .inl (nI 1)] σ (jaKi fun r2 σ1 =>
    kk r2 σ1)) :
  jaDe (D + 1) jy_A_chain [.inr (.inr (0, 0, 0))] σ (jaKi kk) :=
  jaCall_intro (mt := jaMt) (y := jy_A_chain) (f := jf_A_chain) (ps := jp_A_chain) (nL := 1) rfl rfl (jaRun_go (jaCall_self jaAr jaMt D) [] 9 _ _ _ _ h)
abbrev jm_A_least : jaM := (jf_A_least, jp_A_least, 1)
theorem js_A_least {D : Nat} {kk : Int32 → jaT → Prop} {σ : jaT}  (h :
  (jaDe D) jy_En_longestRow [.inr (.inr (60, 1, 0)), .inl (((σ 1).1 30 0 4) + (nI 1))] σ (jaKi fun r2 σ1 =>
    kk r2 σ1)) :
  jaDe (D + 1) jy_A_least [.inr (.inr (0, 0, 0))] σ (jaKi kk) :=
  jaCall_intro (mt := jaMt) (y := jy_A_least) (f := jf_A_least) (ps := jp_A_least) (nL := 1) rfl rfl (jaRun_go (jaCall_self jaAr jaMt D) [] 14 _ _ _ _ h)
abbrev jm_A_over : jaM := (jf_A_over, jp_A_over, 2)
def jc_A_over_1 (D : Nat) (kk : Int32 → jaT → Prop) (x1 : Int32) (σ : jaT) : Prop := jaC (jaDe D) jm_A_over (jaKi kk) 1 [some (.inr (.inr (0, 0, 0))), some (.inl x1)] [] σ
theorem js_A_over {D : Nat} {kk : Int32 → jaT → Prop} {σ : jaT}  (h :
  (jaDe D) jy_St_copyFrom [.inr (.inr (40, 2, 0)), .inr (.inr (40, 1, 0))] σ (jaKv fun σ1 =>
    jc_A_over_1 D kk (nI 0) σ1)) :
  jaDe (D + 1) jy_A_over [.inr (.inr (0, 0, 0))] σ (jaKi kk) :=
  jaCall_intro (mt := jaMt) (y := jy_A_over) (f := jf_A_over) (ps := jp_A_over) (nL := 2) rfl rfl (jaRun_go (jaCall_self jaAr jaMt D) [1] 11 _ _ _ _ h)
theorem jb_A_over_1 {D : Nat} {kk : Int32 → jaT → Prop} {σ : jaT} {x1 : Int32} (h :
  ((nI 400) < x1 → kk (-1 : Int32) σ) ∧
  (¬ (nI 400) < x1 → 
    (jaDe D) jy_St_isOver [.inr (.inr (40, 2, 0))] σ (jaKi fun r2 σ1 =>
      (r2 = 0 → 
        (jaDe D) jy_St_passTick [.inr (.inr (40, 2, 0))] σ1 (jaKv fun σ3 =>
          jc_A_over_1 D kk (x1 + (nI 1)) σ3)) ∧
      (¬ r2 = 0 → kk x1 σ1)))) :
  jc_A_over_1 D kk x1 σ :=
  jaRun_go (jaCall_self jaAr jaMt D) [1] 15 _ _ _ _ h
abbrev jm_A_so : jaM := (jf_A_so, jp_A_so, 2)
theorem js_A_so {D : Nat} {kk : Int32 → jaT → Prop} {σ : jaT}  (h :
  let σ1 : jaT := jaU σ 0 (jaUI (σ 0) 0 0 1 (nI 0))
  (jaDe D) jy_Se_find [.inr (.inr (16, 0, 0)), .inr (.inr (40, 1, 0)), .inr (.inr (1, 0, 0)), .inl ((σ 0).1 0 0 1)] σ1 (jaKi fun r3 σ2 =>
    kk r3 σ2)) :
  jaDe (D + 1) jy_A_so [.inr (.inr (0, 0, 0))] σ (jaKi kk) :=
  jaCall_intro (mt := jaMt) (y := jy_A_so) (f := jf_A_so) (ps := jp_A_so) (nL := 2) rfl rfl (jaRun_go (jaCall_self jaAr jaMt D) [] 18 _ _ _ _ h)
abbrev jm_A_soAt : jaM := (jf_A_soAt, jp_A_soAt, 2)
theorem js_A_soAt {D : Nat} {kk : Int32 → jaT → Prop} {σ : jaT} {x1 : Int32} (h :
  (x1 < 0 → kk (-1 : Int32) σ) ∧
  (¬ x1 < 0 → 
    (((σ 0).1 16 0 0) ≤ x1 → kk (-1 : Int32) σ) ∧
    (¬ ((σ 0).1 16 0 0) ≤ x1 → vp_in x1 41 ∧ kk ((σ 0).1 17 0 (jaIx x1)) σ))) :
  jaDe (D + 1) jy_A_soAt [.inr (.inr (0, 0, 0)), .inl x1] σ (jaKi kk) :=
  jaCall_intro (mt := jaMt) (y := jy_A_soAt) (f := jf_A_soAt) (ps := jp_A_soAt) (nL := 2) rfl rfl (jaRun_go (jaCall_self jaAr jaMt D) [] 17 _ _ _ _ h)
abbrev jm_A_ask : jaM := (jf_A_ask, jp_A_ask, 1)
theorem js_A_ask {D : Nat} {kk : Int32 → jaT → Prop} {σ : jaT}  (h :
  kk ((σ 0).1 16 0 2) σ) :
  jaDe (D + 1) jy_A_ask [.inr (.inr (0, 0, 0))] σ (jaKi kk) :=
  jaCall_intro (mt := jaMt) (y := jy_A_ask) (f := jf_A_ask) (ps := jp_A_ask) (nL := 1) rfl rfl (jaRun_go (jaCall_self jaAr jaMt D) [] 7 _ _ _ _ h)
abbrev jm_A_sentence : jaM := (jf_A_sentence, jp_A_sentence, 2)
theorem js_A_sentence {D : Nat} {kk : Int32 → jaT → Prop} {σ : jaT}  (h :
  (jaDe D) jy_A_readTape [.inr (.inr (0, 0, 0)), .inl (nI 200)] σ (jaKv fun σ1 =>
    vp_in ((nI 1) - ((σ1 0).1 0 0 11)) 2 ∧ ((jaDe D) jy_Sn_read [.inr (.inr (20, (0 + (14 + jaIx ((nI 1) - ((σ1 0).1 0 0 11)))), 0)), .inr (.inr (2, 0, 0)), .inr (.inr (30, 1, 0))] σ1 (jaKi fun r3 σ2 =>
      (¬ r3 = 0 → 
        let σ4 : jaT := jaU σ2 0 (jaUI (σ2 0) 0 0 11 ((nI 1) - ((σ1 0).1 0 0 11)))
        vp_in ((nI 1) - ((σ1 0).1 0 0 11)) 2 ∧ kk ((σ4 (0 + (14 + jaIx ((nI 1) - ((σ1 0).1 0 0 11))))).1 20 0 1) σ4) ∧
      (r3 = 0 → 
        (jaDe D) jy_A_faultBelow [.inr (.inr (0, 0, 0)), .inl (-1 : Int32)] σ2 (jaKi fun r6 σ5 =>
          kk r6 σ5)))))) :
  jaDe (D + 1) jy_A_sentence [.inr (.inr (0, 0, 0))] σ (jaKi kk) :=
  jaCall_intro (mt := jaMt) (y := jy_A_sentence) (f := jf_A_sentence) (ps := jp_A_sentence) (nL := 2) rfl rfl (jaRun_go (jaCall_self jaAr jaMt D) [] 31 _ _ _ _ h)
abbrev jm_A_said : jaM := (jf_A_said, jp_A_said, 7)
def jc_A_said_3 (D : Nat) (kk : Int32 → jaT → Prop) (x1 : Int32) (k2 : Nat) (x3 : Int64) (x5 : Int32) (x6 : Int32) (σ : jaT) : Prop := jaC (jaDe D) jm_A_said (jaKi kk) 3 [some (.inr (.inr (0, 0, 0))), some (.inl x1), some (.inr (.inr (20, k2, 0))), some (.inr (.inl x3)), none, some (.inl x5), some (.inl x6)] [] σ
theorem js_A_said {D : Nat} {kk : Int32 → jaT → Prop} {σ : jaT} {x1 : Int32} (h :
  vp_in ((σ 0).1 0 0 11) 2 ∧ ((((σ (0 + (14 + jaIx ((σ 0).1 0 0 11)))).1 20 0 0) = 0 → kk (-1 : Int32) σ) ∧
  (¬ ((σ (0 + (14 + jaIx ((σ 0).1 0 0 11)))).1 20 0 0) = 0 → 
    ((-1 : Int32) ≤ x1 → 
      (jaDe D) jy_St_readyPlaces [.inr (.inr (40, 1, 0)), .inl (nI 0)] σ (jaKl fun r2 σ1 =>
        jc_A_said_3 D kk x1 (0 + (14 + jaIx ((σ 0).1 0 0 11))) r2 (nI 0) (nI 0) σ1)) ∧
    (¬ (-1 : Int32) ≤ x1 → kk (-1 : Int32) σ)))) :
  jaDe (D + 1) jy_A_said [.inr (.inr (0, 0, 0)), .inl x1] σ (jaKi kk) :=
  jaCall_intro (mt := jaMt) (y := jy_A_said) (f := jf_A_said) (ps := jp_A_said) (nL := 7) rfl rfl (jaRun_go (jaCall_self jaAr jaMt D) [3] 25 _ _ _ _ h)
theorem jb_A_said_3 {D : Nat} {kk : Int32 → jaT → Prop} {σ : jaT} {x1 : Int32} {k2 : Nat} {x3 : Int64} {x5 : Int32} {x6 : Int32} (h :
  (((σ 1).1 60 0 1) ≤ x6 → 
    (¬ x1 = (-1 : Int32) → kk (-1 : Int32) σ) ∧
    (x1 = (-1 : Int32) → kk x5 σ)) ∧
  (¬ ((σ 1).1 60 0 1) ≤ x6 → 
    (¬ (lg_cmp (((Int64.toUInt64 x3 >>> (Int64.toUInt64 (Int32.toInt64 x6) &&& Int64.toUInt64 63)).toInt64) &&& (Int64.ofNat 1)) (Int64.ofNat 1)) = 0 → 
      (jaDe D) jy_Sn_holds [.inr (.inr (20, k2, 0)), .inr (.inr (40, 1, 0)), .inl x6, .inl (nI 0)] σ (jaKi fun r2 σ1 =>
        (r2 = 0 → jc_A_said_3 D kk x1 k2 x3 x5 (x6 + (nI 1)) σ1) ∧
        (¬ r2 = 0 → 
          (¬ x5 = x1 → jc_A_said_3 D kk x1 k2 x3 (x5 + (nI 1)) (x6 + (nI 1)) σ1) ∧
          (x5 = x1 → kk x6 σ1)))) ∧
    ((lg_cmp (((Int64.toUInt64 x3 >>> (Int64.toUInt64 (Int32.toInt64 x6) &&& Int64.toUInt64 63)).toInt64) &&& (Int64.ofNat 1)) (Int64.ofNat 1)) = 0 → 
      (jaDe D) jy_Sn_holds [.inr (.inr (20, k2, 0)), .inr (.inr (40, 1, 0)), .inl x6, .inl (nI 1)] σ (jaKi fun r4 σ3 =>
        (r4 = 0 → jc_A_said_3 D kk x1 k2 x3 x5 (x6 + (nI 1)) σ3) ∧
        (¬ r4 = 0 → 
          (¬ x5 = x1 → jc_A_said_3 D kk x1 k2 x3 (x5 + (nI 1)) (x6 + (nI 1)) σ3) ∧
          (x5 = x1 → kk x6 σ3)))))) :
  jc_A_said_3 D kk x1 k2 x3 x5 x6 σ :=
  jaRun_go (jaCall_self jaAr jaMt D) [3] 32 _ _ _ _ h
abbrev jm_Bo_read : jaM := (jf_Bo_read, jp_Bo_read, 4)
def jc_Bo_read_1 (D : Nat) (kk : Int32 → jaT → Prop) (k2 : Nat) (x3 : Int32) (σ : jaT) : Prop := jaC (jaDe D) jm_Bo_read (jaKi kk) 1 [some (.inr (.inr (6, 0, 0))), some (.inr (.inr (2, 0, 0))), some (.inr (.inr (30, k2, 0))), some (.inl x3)] [] σ
theorem js_Bo_read {D : Nat} {kk : Int32 → jaT → Prop} {σ : jaT} {k2 : Nat} (h :
  let σ1 : jaT := jaU σ 0 (jaUI (σ 0) 6 0 0 (nI 0))
  jc_Bo_read_1 D kk k2 (nI 0) σ1) :
  jaDe (D + 1) jy_Bo_read [.inr (.inr (6, 0, 0)), .inr (.inr (2, 0, 0)), .inr (.inr (30, k2, 0))] σ (jaKi kk) :=
  jaCall_intro (mt := jaMt) (y := jy_Bo_read) (f := jf_Bo_read) (ps := jp_Bo_read) (nL := 4) rfl rfl (jaRun_go (jaCall_self jaAr jaMt D) [1] 9 _ _ _ _ h)
theorem jb_Bo_read_1 {D : Nat} {kk : Int32 → jaT → Prop} {σ : jaT} {k2 : Nat} {x3 : Int32} (h :
  ((nI 40) < x3 → ((nI 1) = 0 ∨ (nI 1) = 1) ∧ kk (nI 1) σ) ∧
  (¬ (nI 40) < x3 → 
    (jaDe D) jy_Rd_kind [.inr (.inr (2, 0, 0))] σ (jaKi fun r2 σ1 =>
      (r2 = (nI 1) → ((nI 1) = 0 ∨ (nI 1) = 1) ∧ kk (nI 1) σ1) ∧
      (¬ r2 = (nI 1) → 
        (jaDe D) jy_Bo_readLine [.inr (.inr (6, 0, 0)), .inr (.inr (2, 0, 0)), .inr (.inr (30, k2, 0))] σ1 (jaKi fun r4 σ3 =>
          (r4 = 0 → ((nI 0) = 0 ∨ (nI 0) = 1) ∧ kk (nI 0) σ3) ∧
          (¬ r4 = 0 → 
            (jaDe D) jy_Rd_take [.inr (.inr (2, 0, 0)), .inl (nI 59)] σ3 (jaKi fun r6 σ5 =>
              (¬ r6 = 0 → 
                let σ7 : jaT := jaU σ5 0 (jaUI (σ5 0) 6 0 0 (((σ5 0).1 6 0 0) + (nI 1)))
                jc_Bo_read_1 D kk k2 (x3 + (nI 1)) σ7) ∧
              (r6 = 0 → ((nI 0) = 0 ∨ (nI 0) = 1) ∧ kk (nI 0) σ5)))))))) :
  jc_Bo_read_1 D kk k2 x3 σ :=
  jaRun_go (jaCall_self jaAr jaMt D) [1] 27 _ _ _ _ h
abbrev jm_Bo_readLine : jaM := (jf_Bo_readLine, jp_Bo_readLine, 6)
def jc_Bo_readLine_1 (D : Nat) (kk : Int32 → jaT → Prop) (k2 : Nat) (x3 : Int32) (σ : jaT) : Prop := jaC (jaDe D) jm_Bo_readLine (jaKi kk) 1 [some (.inr (.inr (6, 0, 0))), some (.inr (.inr (2, 0, 0))), some (.inr (.inr (30, k2, 0))), some (.inl x3), none, none] [] σ
def jc_Bo_readLine_4 (D : Nat) (kk : Int32 → jaT → Prop) (k2 : Nat) (x3 : Int32) (x4 : Int32) (x5 : Int32) (xs0 : Int32) (σ : jaT) : Prop := jaC (jaDe D) jm_Bo_readLine (jaKi kk) 4 [some (.inr (.inr (6, 0, 0))), some (.inr (.inr (2, 0, 0))), some (.inr (.inr (30, k2, 0))), some (.inl x3), some (.inl x4), some (.inl x5)] [.inl xs0] σ
def jc_Bo_readLine_7 (D : Nat) (kk : Int32 → jaT → Prop) (k2 : Nat) (x3 : Int32) (x4 : Int32) (x5 : Int32) (σ : jaT) : Prop := jaC (jaDe D) jm_Bo_readLine (jaKi kk) 7 [some (.inr (.inr (6, 0, 0))), some (.inr (.inr (2, 0, 0))), some (.inr (.inr (30, k2, 0))), some (.inl x3), some (.inl x4), some (.inl x5)] [] σ
def jc_Bo_readLine_8 (D : Nat) (kk : Int32 → jaT → Prop) (k2 : Nat) (x3 : Int32) (x4 : Int32) (x5 : Int32) (σ : jaT) : Prop := jaC (jaDe D) jm_Bo_readLine (jaKi kk) 8 [some (.inr (.inr (6, 0, 0))), some (.inr (.inr (2, 0, 0))), some (.inr (.inr (30, k2, 0))), some (.inl x3), some (.inl x4), some (.inl x5)] [] σ
def jc_Bo_readLine_9 (D : Nat) (kk : Int32 → jaT → Prop) (k2 : Nat) (x3 : Int32) (x4 : Int32) (x5 : Int32) (xs0 : Int32) (σ : jaT) : Prop := jaC (jaDe D) jm_Bo_readLine (jaKi kk) 9 [some (.inr (.inr (6, 0, 0))), some (.inr (.inr (2, 0, 0))), some (.inr (.inr (30, k2, 0))), some (.inl x3), some (.inl x4), some (.inl x5)] [.inl xs0] σ
theorem js_Bo_readLine {D : Nat} {kk : Int32 → jaT → Prop} {σ : jaT} {k2 : Nat} (h :
  (jaDe D) jy_Rd_kind [.inr (.inr (2, 0, 0))] σ (jaKi fun r2 σ1 =>
    (r2 = (nI 109) → jc_Bo_readLine_1 D kk k2 r2 σ1) ∧
    (¬ r2 = (nI 109) → 
      (r2 = (nI 110) → jc_Bo_readLine_1 D kk k2 r2 σ1) ∧
      (¬ r2 = (nI 110) → 
        (r2 = (nI 111) → jc_Bo_readLine_1 D kk k2 r2 σ1) ∧
        (¬ r2 = (nI 111) → 
          (r2 = (nI 112) → jc_Bo_readLine_1 D kk k2 r2 σ1) ∧
          (¬ r2 = (nI 112) → 
            (jaDe D) jy_Rd_fail [.inr (.inr (2, 0, 0)), .inl (nI 1)] σ1 (jaKi fun r4 σ3 =>
              (r4 = 0 ∨ r4 = 1) ∧ kk r4 σ3))))))) :
  jaDe (D + 1) jy_Bo_readLine [.inr (.inr (6, 0, 0)), .inr (.inr (2, 0, 0)), .inr (.inr (30, k2, 0))] σ (jaKi kk) :=
  jaCall_intro (mt := jaMt) (y := jy_Bo_readLine) (f := jf_Bo_readLine) (ps := jp_Bo_readLine) (nL := 6) rfl rfl (jaRun_go (jaCall_self jaAr jaMt D) [1, 4, 7, 8, 9] 22 _ _ _ _ h)
theorem jb_Bo_readLine_1 {D : Nat} {kk : Int32 → jaT → Prop} {σ : jaT} {k2 : Nat} {x3 : Int32} (h :
  (((σ 0).1 6 0 0) < (nI 40) → 
    (jaDe D) jy_Rd_step [.inr (.inr (2, 0, 0))] σ (jaKv fun σ1 =>
      (¬ x3 = (nI 109) → 
        (¬ x3 = (nI 111) → 
          (¬ x3 = (nI 112) → jc_Bo_readLine_7 D kk k2 x3 (nI 0) (nI 0) σ1) ∧
          (x3 = (nI 112) → 
            (jaDe D) jy_Rd_takeNumber [.inr (.inr (2, 0, 0)), .inl (nI 1), .inl (nI 60)] σ1 (jaKi fun r3 σ2 =>
              jc_Bo_readLine_7 D kk k2 x3 r3 (nI 0) σ2))) ∧
        (x3 = (nI 111) → 
          (jaDe D) jy_Wo_takeNamed [.inr (.inr (30, k2, 0)), .inr (.inr (2, 0, 0)), .inl (nI 13), .inl ((σ1 k2).1 30 0 2)] σ1 (jaKi fun r5 σ4 =>
            jc_Bo_readLine_7 D kk k2 x3 r5 (nI 0) σ4))) ∧
      (x3 = (nI 109) → 
        (jaDe D) jy_Wo_takeNamed [.inr (.inr (30, k2, 0)), .inr (.inr (2, 0, 0)), .inl (nI 0), .inl ((σ1 k2).1 30 0 0)] σ1 (jaKi fun r7 σ6 =>
          (0 ≤ r7 → 
            (jaDe D) jy_Rd_takeNumber [.inr (.inr (2, 0, 0)), .inl (nI 0), .inl (nI 23)] σ6 (jaKi fun r9 σ8 =>
              jc_Bo_readLine_4 D kk k2 x3 r7 (nI 0) r9 σ8)) ∧
          (¬ 0 ≤ r7 → jc_Bo_readLine_4 D kk k2 x3 r7 (nI 0) (-1 : Int32) σ6))))) ∧
  (¬ ((σ 0).1 6 0 0) < (nI 40) → 
    (jaDe D) jy_Rd_fail [.inr (.inr (2, 0, 0)), .inl (nI 4)] σ (jaKi fun r11 σ10 =>
      (r11 = 0 ∨ r11 = 1) ∧ kk r11 σ10))) :
  jc_Bo_readLine_1 D kk k2 x3 σ :=
  jaRun_go (jaCall_self jaAr jaMt D) [1, 4, 7, 8, 9] 30 _ _ _ _ h
theorem jb_Bo_readLine_4 {D : Nat} {kk : Int32 → jaT → Prop} {σ : jaT} {k2 : Nat} {x3 : Int32} {x4 : Int32} {x5 : Int32} {xs0 : Int32} (h :
  jc_Bo_readLine_7 D kk k2 x3 x4 xs0 σ) :
  jc_Bo_readLine_4 D kk k2 x3 x4 x5 xs0 σ :=
  jaRun_go (jaCall_self jaAr jaMt D) [1, 4, 7, 8, 9] 5 _ _ _ _ h
theorem jb_Bo_readLine_7 {D : Nat} {kk : Int32 → jaT → Prop} {σ : jaT} {k2 : Nat} {x3 : Int32} {x4 : Int32} {x5 : Int32} (h :
  vp_in ((σ 0).1 6 0 0) 40 ∧ 
  (let σ1 : jaT := jaU σ 0 (jaUI (σ 0) 7 0 (jaIx ((σ 0).1 6 0 0)) x3)
  vp_in ((σ1 0).1 6 0 0) 40 ∧ 
  (let σ2 : jaT := jaU σ1 0 (jaUI (σ1 0) 8 0 (jaIx ((σ1 0).1 6 0 0)) x4)
  vp_in ((σ2 0).1 6 0 0) 40 ∧ 
  (let σ3 : jaT := jaU σ2 0 (jaUI (σ2 0) 9 0 (jaIx ((σ2 0).1 6 0 0)) x5)
  (x4 < 0 → jc_Bo_readLine_8 D kk k2 x3 x4 x5 σ3) ∧
  (¬ x4 < 0 → 
    (x5 < 0 → jc_Bo_readLine_8 D kk k2 x3 x4 x5 σ3) ∧
    (¬ x5 < 0 → jc_Bo_readLine_9 D kk k2 x3 x4 x5 (nI 1) σ3)))))) :
  jc_Bo_readLine_7 D kk k2 x3 x4 x5 σ :=
  jaRun_go (jaCall_self jaAr jaMt D) [1, 4, 7, 8, 9] 27 _ _ _ _ h
theorem jb_Bo_readLine_8 {D : Nat} {kk : Int32 → jaT → Prop} {σ : jaT} {k2 : Nat} {x3 : Int32} {x4 : Int32} {x5 : Int32} (h :
  jc_Bo_readLine_9 D kk k2 x3 x4 x5 (nI 0) σ) :
  jc_Bo_readLine_8 D kk k2 x3 x4 x5 σ :=
  jaRun_go (jaCall_self jaAr jaMt D) [1, 4, 7, 8, 9] 5 _ _ _ _ h
theorem jb_Bo_readLine_9 {D : Nat} {kk : Int32 → jaT → Prop} {σ : jaT} {k2 : Nat} {x3 : Int32} {x4 : Int32} {x5 : Int32} {xs0 : Int32} (h :
  (xs0 = 0 ∨ xs0 = 1) ∧ kk xs0 σ) :
  jc_Bo_readLine_9 D kk k2 x3 x4 x5 xs0 σ :=
  jaRun_go (jaCall_self jaAr jaMt D) [1, 4, 7, 8, 9] 4 _ _ _ _ h
abbrev jm_Ck_copyFrom : jaM := (jf_Ck_copyFrom, jp_Ck_copyFrom, 3)
def jc_Ck_copyFrom_1 (D : Nat) (kk : jaT → Prop) (k : Nat) (k1 : Nat) (x2 : Int32) (σ : jaT) : Prop := jaC (jaDe D) jm_Ck_copyFrom (jaKv kk) 1 [some (.inr (.inr (44, k, 0))), some (.inr (.inr (44, k1, 0))), some (.inl x2)] [] σ
def jc_Ck_copyFrom_3 (D : Nat) (kk : jaT → Prop) (k : Nat) (k1 : Nat) (x2 : Int32) (σ : jaT) : Prop := jaC (jaDe D) jm_Ck_copyFrom (jaKv kk) 3 [some (.inr (.inr (44, k, 0))), some (.inr (.inr (44, k1, 0))), some (.inl x2)] [] σ
theorem js_Ck_copyFrom {D : Nat} {kk : jaT → Prop} {σ : jaT} {k : Nat} {k1 : Nat} (h :
  (((σ k1).1 44 0 0) = 0 ∨ ((σ k1).1 44 0 0) = 1) ∧
  (let σ1 : jaT := jaU σ k (jaUI (σ k) 44 0 0 ((σ k1).1 44 0 0))
  let σ2 : jaT := jaU σ1 k (jaUI (σ1 k) 44 0 1 ((σ1 k1).1 44 0 1))
  let σ3 : jaT := jaU σ2 k (jaUI (σ2 k) 44 0 2 ((σ2 k1).1 44 0 2))
  let σ4 : jaT := jaU σ3 k (jaUI (σ3 k) 44 0 3 ((σ3 k1).1 44 0 3))
  let σ5 : jaT := jaU σ4 k (jaUI (σ4 k) 44 0 6 ((σ4 k1).1 44 0 6))
  jc_Ck_copyFrom_1 D kk k k1 (nI 0) σ5)) :
  jaDe (D + 1) jy_Ck_copyFrom [.inr (.inr (44, k, 0)), .inr (.inr (44, k1, 0))] σ (jaKv kk) :=
  jaCall_intro (mt := jaMt) (y := jy_Ck_copyFrom) (f := jf_Ck_copyFrom) (ps := jp_Ck_copyFrom) (nL := 3) rfl rfl (jaRun_go (jaCall_self jaAr jaMt D) [1, 3] 26 _ _ _ _ h)
theorem jb_Ck_copyFrom_1 {D : Nat} {kk : jaT → Prop} {σ : jaT} {k : Nat} {k1 : Nat} {x2 : Int32} (h :
  ((nI 10) ≤ x2 → jc_Ck_copyFrom_3 D kk k k1 (nI 0) σ) ∧
  (¬ (nI 10) ≤ x2 → 
    vp_in x2 10 ∧ (vp_in x2 10 ∧ 
    (let σ1 : jaT := jaU σ k (jaUI (σ k) 45 0 (jaIx x2) ((σ k1).1 45 0 (jaIx x2)))
    vp_in x2 10 ∧ (vp_in x2 10 ∧ 
    (let σ2 : jaT := jaU σ1 k (jaUI (σ1 k) 46 0 (jaIx x2) ((σ1 k1).1 46 0 (jaIx x2)))
    vp_in x2 10 ∧ (vp_in x2 10 ∧ 
    (let σ3 : jaT := jaU σ2 k (jaUI (σ2 k) 47 0 (jaIx x2) ((σ2 k1).1 47 0 (jaIx x2)))
    jc_Ck_copyFrom_1 D kk k k1 (x2 + (nI 1)) σ3)))))))) :
  jc_Ck_copyFrom_1 D kk k k1 x2 σ :=
  jaRun_go (jaCall_self jaAr jaMt D) [1, 3] 32 _ _ _ _ h
theorem jb_Ck_copyFrom_3 {D : Nat} {kk : jaT → Prop} {σ : jaT} {k : Nat} {k1 : Nat} {x2 : Int32} (h :
  (((σ k).1 44 0 6) ≤ x2 → kk σ) ∧
  (¬ ((σ k).1 44 0 6) ≤ x2 → 
    vp_in x2 40 ∧ (vp_in x2 40 ∧ 
    (let σ1 : jaT := jaU σ k (jaUI (σ k) 48 0 (jaIx x2) ((σ k1).1 48 0 (jaIx x2)))
    jc_Ck_copyFrom_3 D kk k k1 (x2 + (nI 1)) σ1)))) :
  jc_Ck_copyFrom_3 D kk k k1 x2 σ :=
  jaRun_go (jaCall_self jaAr jaMt D) [1, 3] 17 _ _ _ _ h
abbrev jm_Ck_start : jaM := (jf_Ck_start, jp_Ck_start, 3)
def jc_Ck_start_1 (D : Nat) (kk : jaT → Prop) (k : Nat) (k1 : Nat) (x2 : Int32) (σ : jaT) : Prop := jaC (jaDe D) jm_Ck_start (jaKv kk) 1 [some (.inr (.inr (44, k, 0))), some (.inr (.inr (30, k1, 0))), some (.inl x2)] [] σ
theorem js_Ck_start {D : Nat} {kk : jaT → Prop} {σ : jaT} {k : Nat} {k1 : Nat} (h :
  ((nI 0) = 0 ∨ (nI 0) = 1) ∧
  (let σ1 : jaT := jaU σ k (jaUI (σ k) 44 0 0 (nI 0))
  let σ2 : jaT := jaU σ1 k (jaUI (σ1 k) 44 0 6 (nI 0))
  jc_Ck_start_1 D kk k k1 (nI 0) σ2)) :
  jaDe (D + 1) jy_Ck_start [.inr (.inr (44, k, 0)), .inr (.inr (30, k1, 0))] σ (jaKv kk) :=
  jaCall_intro (mt := jaMt) (y := jy_Ck_start) (f := jf_Ck_start) (ps := jp_Ck_start) (nL := 3) rfl rfl (jaRun_go (jaCall_self jaAr jaMt D) [1] 12 _ _ _ _ h)
theorem jb_Ck_start_1 {D : Nat} {kk : jaT → Prop} {σ : jaT} {k : Nat} {k1 : Nat} {x2 : Int32} (h :
  (((σ k1).1 30 0 1) ≤ x2 → kk σ) ∧
  (¬ ((σ k1).1 30 0 1) ≤ x2 → 
    vp_in x2 10 ∧ (vp_in x2 10 ∧ 
    (let σ1 : jaT := jaU σ k (jaUI (σ k) 47 0 (jaIx x2) ((σ k1).1 32 0 (jaIx x2)))
    jc_Ck_start_1 D kk k k1 (x2 + (nI 1)) σ1)))) :
  jc_Ck_start_1 D kk k k1 x2 σ :=
  jaRun_go (jaCall_self jaAr jaMt D) [1] 17 _ _ _ _ h
abbrev jm_Ck_begin : jaM := (jf_Ck_begin, jp_Ck_begin, 2)
theorem js_Ck_begin {D : Nat} {kk : jaT → Prop} {σ : jaT} {k : Nat} {x1 : Int32} (h :
  ((nI 1) = 0 ∨ (nI 1) = 1) ∧
  (let σ1 : jaT := jaU σ k (jaUI (σ k) 44 0 0 (nI 1))
  let σ2 : jaT := jaU σ1 k (jaUI (σ1 k) 44 0 1 x1)
  let σ3 : jaT := jaU σ2 k (jaUI (σ2 k) 44 0 2 (nI 0))
  let σ4 : jaT := jaU σ3 k (jaUI (σ3 k) 44 0 3 (nI 0))
  kk σ4)) :
  jaDe (D + 1) jy_Ck_begin [.inr (.inr (44, k, 0)), .inl x1] σ (jaKv kk) :=
  jaCall_intro (mt := jaMt) (y := jy_Ck_begin) (f := jf_Ck_begin) (ps := jp_Ck_begin) (nL := 2) rfl rfl (jaRun_go (jaCall_self jaAr jaMt D) [] 16 _ _ _ _ h)
abbrev jm_Ck_hasTwin : jaM := (jf_Ck_hasTwin, jp_Ck_hasTwin, 2)
theorem js_Ck_hasTwin {D : Nat} {kk : Int32 → jaT → Prop} {σ : jaT} {k : Nat} {x1 : Int32} (h :
  (((σ k).1 44 0 0) = 0 → ((nI 0) = 0 ∨ (nI 0) = 1) ∧ kk (nI 0) σ) ∧
  (¬ ((σ k).1 44 0 0) = 0 → 
    (¬ (((Int32.toUInt32 ((σ k).1 44 0 3) >>> (Int32.toUInt32 x1 &&& Int32.toUInt32 31)).toInt32) &&& (nI 1)) = (nI 1) → ((nI 0) = 0 ∨ (nI 0) = 1) ∧ kk (nI 0) σ) ∧
    ((((Int32.toUInt32 ((σ k).1 44 0 3) >>> (Int32.toUInt32 x1 &&& Int32.toUInt32 31)).toInt32) &&& (nI 1)) = (nI 1) → ((nI 1) = 0 ∨ (nI 1) = 1) ∧ kk (nI 1) σ))) :
  jaDe (D + 1) jy_Ck_hasTwin [.inr (.inr (44, k, 0)), .inl x1] σ (jaKi kk) :=
  jaCall_intro (mt := jaMt) (y := jy_Ck_hasTwin) (f := jf_Ck_hasTwin) (ps := jp_Ck_hasTwin) (nL := 2) rfl rfl (jaRun_go (jaCall_self jaAr jaMt D) [] 17 _ _ _ _ h)
abbrev jm_Ck_noteWrite : jaM := (jf_Ck_noteWrite, jp_Ck_noteWrite, 4)
theorem js_Ck_noteWrite {D : Nat} {kk : jaT → Prop} {σ : jaT} {k : Nat} {x1 : Int32} {x2 : Int32} {x3 : Int32} (h :
  (((σ k).1 44 0 0) = 0 → kk σ) ∧
  (¬ ((σ k).1 44 0 0) = 0 → 
    (x1 < ((σ k).1 44 0 1) → kk σ) ∧
    (¬ x1 < ((σ k).1 44 0 1) → 
      (x2 < ((σ k).1 44 0 2) → kk σ) ∧
      (¬ x2 < ((σ k).1 44 0 2) → 
        (jaDe D) jy_Ck_hasTwin [.inr (.inr (44, k, 0)), .inl x2] σ (jaKi fun r2 σ1 =>
          (¬ r2 = 0 → kk σ1) ∧
          (r2 = 0 → 
            let σ3 : jaT := jaU σ1 k (jaUI (σ1 k) 44 0 3 (((σ1 k).1 44 0 3) ||| ((nI 1) <<< (x2 &&& 31))))
            vp_in x2 10 ∧ 
            (let σ4 : jaT := jaU σ3 k (jaUI (σ3 k) 45 0 (jaIx x2) x3)
            kk σ4))))))) :
  jaDe (D + 1) jy_Ck_noteWrite [.inr (.inr (44, k, 0)), .inl x1, .inl x2, .inl x3] σ (jaKv kk) :=
  jaCall_intro (mt := jaMt) (y := jy_Ck_noteWrite) (f := jf_Ck_noteWrite) (ps := jp_Ck_noteWrite) (nL := 4) rfl rfl (jaRun_go (jaCall_self jaAr jaMt D) [] 33 _ _ _ _ h)
abbrev jm_Ck_takeNext : jaM := (jf_Ck_takeNext, jp_Ck_takeNext, 2)
theorem js_Ck_takeNext {D : Nat} {kk : jaT → Prop} {σ : jaT} {k : Nat} {x1 : Int32} (h :
  ((nI 10) ≤ ((σ k).1 44 0 2) → kk σ) ∧
  (¬ (nI 10) ≤ ((σ k).1 44 0 2) → 
    (jaDe D) jy_Ck_hasTwin [.inr (.inr (44, k, 0)), .inl ((σ k).1 44 0 2)] σ (jaKi fun r2 σ1 =>
      (r2 = 0 → 
        vp_in ((σ k).1 44 0 2) 10 ∧ 
        (let σ3 : jaT := jaU σ1 k (jaUI (σ1 k) 46 0 (jaIx ((σ k).1 44 0 2)) x1)
        let σ4 : jaT := jaU σ3 k (jaUI (σ3 k) 44 0 2 (((σ3 k).1 44 0 2) + (nI 1)))
        kk σ4)) ∧
      (¬ r2 = 0 → 
        vp_in ((σ1 k).1 44 0 2) 10 ∧ (vp_in ((σ k).1 44 0 2) 10 ∧ 
        (let σ5 : jaT := jaU σ1 k (jaUI (σ1 k) 46 0 (jaIx ((σ k).1 44 0 2)) ((σ1 k).1 45 0 (jaIx ((σ1 k).1 44 0 2))))
        let σ6 : jaT := jaU σ5 k (jaUI (σ5 k) 44 0 2 (((σ5 k).1 44 0 2) + (nI 1)))
        kk σ6)))))) :
  jaDe (D + 1) jy_Ck_takeNext [.inr (.inr (44, k, 0)), .inl x1] σ (jaKv kk) :=
  jaCall_intro (mt := jaMt) (y := jy_Ck_takeNext) (f := jf_Ck_takeNext) (ps := jp_Ck_takeNext) (nL := 2) rfl rfl (jaRun_go (jaCall_self jaAr jaMt D) [] 31 _ _ _ _ h)
abbrev jm_Ck_finish : jaM := (jf_Ck_finish, jp_Ck_finish, 3)
def jc_Ck_finish_1 (D : Nat) (kk : jaT → Prop) (k : Nat) (k1 : Nat) (c1 : Nat) (x2 : Int32) (σ : jaT) : Prop := jaC (jaDe D) jm_Ck_finish (jaKv kk) 1 [some (.inr (.inr (44, k, 0))), some (.inr (.inr (50, k1, c1))), some (.inl x2)] [] σ
def jc_Ck_finish_3 (D : Nat) (kk : jaT → Prop) (k : Nat) (k1 : Nat) (c1 : Nat) (x2 : Int32) (σ : jaT) : Prop := jaC (jaDe D) jm_Ck_finish (jaKv kk) 3 [some (.inr (.inr (44, k, 0))), some (.inr (.inr (50, k1, c1))), some (.inl x2)] [] σ
theorem js_Ck_finish {D : Nat} {kk : jaT → Prop} {σ : jaT} {k : Nat} {k1 : Nat} {c1 : Nat} (h :
  let σ1 : jaT := jaU σ k (jaUI (σ k) 44 0 6 ((σ k).1 44 0 1))
  jc_Ck_finish_1 D kk k k1 c1 (nI 0) σ1) :
  jaDe (D + 1) jy_Ck_finish [.inr (.inr (44, k, 0)), .inr (.inr (50, k1, c1))] σ (jaKv kk) :=
  jaCall_intro (mt := jaMt) (y := jy_Ck_finish) (f := jf_Ck_finish) (ps := jp_Ck_finish) (nL := 3) rfl rfl (jaRun_go (jaCall_self jaAr jaMt D) [1, 3] 10 _ _ _ _ h)
theorem jb_Ck_finish_1 {D : Nat} {kk : jaT → Prop} {σ : jaT} {k : Nat} {k1 : Nat} {c1 : Nat} {x2 : Int32} (h :
  (((σ k).1 44 0 2) ≤ x2 → jc_Ck_finish_3 D kk k k1 c1 (nI 0) σ) ∧
  (¬ ((σ k).1 44 0 2) ≤ x2 → 
    ((nI 10) ≤ x2 → jc_Ck_finish_3 D kk k k1 c1 (nI 0) σ) ∧
    (¬ (nI 10) ≤ x2 → 
      vp_in x2 10 ∧ (vp_in x2 10 ∧ 
      (let σ1 : jaT := jaU σ k (jaUI (σ k) 47 0 (jaIx x2) ((σ k).1 46 0 (jaIx x2)))
      jc_Ck_finish_1 D kk k k1 c1 (x2 + (nI 1)) σ1))))) :
  jc_Ck_finish_1 D kk k k1 c1 x2 σ :=
  jaRun_go (jaCall_self jaAr jaMt D) [1, 3] 20 _ _ _ _ h
theorem jb_Ck_finish_3 {D : Nat} {kk : jaT → Prop} {σ : jaT} {k : Nat} {k1 : Nat} {c1 : Nat} {x2 : Int32} (h :
  (((σ k).1 44 0 6) ≤ x2 → 
    ((nI 0) = 0 ∨ (nI 0) = 1) ∧
    (let σ1 : jaT := jaU σ k (jaUI (σ k) 44 0 0 (nI 0))
    kk σ1)) ∧
  (¬ ((σ k).1 44 0 6) ≤ x2 → 
    vp_in x2 40 ∧ (vp_in x2 40 ∧ 
    (let σ2 : jaT := jaU σ k (jaUI (σ k) 48 0 (jaIx x2) ((σ k1).1 52 c1 (jaIx x2)))
    jc_Ck_finish_3 D kk k k1 c1 (x2 + (nI 1)) σ2)))) :
  jc_Ck_finish_3 D kk k k1 c1 x2 σ :=
  jaRun_go (jaCall_self jaAr jaMt D) [1, 3] 17 _ _ _ _ h
abbrev jm_Cp_copyFrom : jaM := (jf_Cp_copyFrom, jp_Cp_copyFrom, 4)
def jc_Cp_copyFrom_1 (D : Nat) (kk : jaT → Prop) (k : Nat) (c : Nat) (k1 : Nat) (c1 : Nat) (x2 : Int32) (x3 : Int32) (σ : jaT) : Prop := jaC (jaDe D) jm_Cp_copyFrom (jaKv kk) 1 [some (.inr (.inr (50, k, c))), some (.inr (.inr (50, k1, c1))), some (.inl x2), some (.inl x3)] [] σ
def jc_Cp_copyFrom_3 (D : Nat) (kk : jaT → Prop) (k : Nat) (c : Nat) (k1 : Nat) (c1 : Nat) (x2 : Int32) (x3 : Int32) (σ : jaT) : Prop := jaC (jaDe D) jm_Cp_copyFrom (jaKv kk) 3 [some (.inr (.inr (50, k, c))), some (.inr (.inr (50, k1, c1))), some (.inl x2), some (.inl x3)] [] σ
theorem js_Cp_copyFrom {D : Nat} {kk : jaT → Prop} {σ : jaT} {k : Nat} {c : Nat} {k1 : Nat} {c1 : Nat} {x2 : Int32} (h :
  jc_Cp_copyFrom_1 D kk k c k1 c1 x2 (nI 0) σ) :
  jaDe (D + 1) jy_Cp_copyFrom [.inr (.inr (50, k, c)), .inr (.inr (50, k1, c1)), .inl x2] σ (jaKv kk) :=
  jaCall_intro (mt := jaMt) (y := jy_Cp_copyFrom) (f := jf_Cp_copyFrom) (ps := jp_Cp_copyFrom) (nL := 4) rfl rfl (jaRun_go (jaCall_self jaAr jaMt D) [1, 3] 6 _ _ _ _ h)
theorem jb_Cp_copyFrom_1 {D : Nat} {kk : jaT → Prop} {σ : jaT} {k : Nat} {c : Nat} {k1 : Nat} {c1 : Nat} {x2 : Int32} {x3 : Int32} (h :
  ((nI 10) ≤ x3 → jc_Cp_copyFrom_3 D kk k c k1 c1 x2 (nI 0) σ) ∧
  (¬ (nI 10) ≤ x3 → 
    vp_in x3 10 ∧ (vp_in x3 10 ∧ 
    (let σ1 : jaT := jaU σ k (jaUI (σ k) 51 c (jaIx x3) ((σ k1).1 51 c1 (jaIx x3)))
    jc_Cp_copyFrom_1 D kk k c k1 c1 x2 (x3 + (nI 1)) σ1)))) :
  jc_Cp_copyFrom_1 D kk k c k1 c1 x2 x3 σ :=
  jaRun_go (jaCall_self jaAr jaMt D) [1, 3] 16 _ _ _ _ h
theorem jb_Cp_copyFrom_3 {D : Nat} {kk : jaT → Prop} {σ : jaT} {k : Nat} {c : Nat} {k1 : Nat} {c1 : Nat} {x2 : Int32} {x3 : Int32} (h :
  (x2 ≤ x3 → kk σ) ∧
  (¬ x2 ≤ x3 → 
    vp_in x3 40 ∧ (vp_in x3 40 ∧ 
    (let σ1 : jaT := jaU σ k (jaUI (σ k) 52 c (jaIx x3) ((σ k1).1 52 c1 (jaIx x3)))
    vp_in x3 40 ∧ (vp_in x3 40 ∧ 
    (let σ2 : jaT := jaU σ1 k (jaUI (σ1 k) 53 c (jaIx x3) ((σ1 k1).1 53 c1 (jaIx x3)))
    jc_Cp_copyFrom_3 D kk k c k1 c1 x2 (x3 + (nI 1)) σ2)))))) :
  jc_Cp_copyFrom_3 D kk k c k1 c1 x2 x3 σ :=
  jaRun_go (jaCall_self jaAr jaMt D) [1, 3] 24 _ _ _ _ h
abbrev jm_Cp_isExecuted : jaM := (jf_Cp_isExecuted, jp_Cp_isExecuted, 2)
theorem js_Cp_isExecuted {D : Nat} {kk : Int32 → jaT → Prop} {σ : jaT} {k : Nat} {c : Nat} {x1 : Int32} (h :
  vp_in x1 40 ∧ ((((σ k).1 52 c (jaIx x1)) = 0 → ((nI 0) = 0 ∨ (nI 0) = 1) ∧ kk (nI 0) σ) ∧
  (¬ ((σ k).1 52 c (jaIx x1)) = 0 → 
    vp_in x1 40 ∧ ((((σ k).1 52 c (jaIx x1)) = (nI 1) → ((nI 0) = 0 ∨ (nI 0) = 1) ∧ kk (nI 0) σ) ∧
    (¬ ((σ k).1 52 c (jaIx x1)) = (nI 1) → ((nI 1) = 0 ∨ (nI 1) = 1) ∧ kk (nI 1) σ))))) :
  jaDe (D + 1) jy_Cp_isExecuted [.inr (.inr (50, k, c)), .inl x1] σ (jaKi kk) :=
  jaCall_intro (mt := jaMt) (y := jy_Cp_isExecuted) (f := jf_Cp_isExecuted) (ps := jp_Cp_isExecuted) (nL := 2) rfl rfl (jaRun_go (jaCall_self jaAr jaMt D) [] 17 _ _ _ _ h)
abbrev jm_Cp_isExecutedAhead : jaM := (jf_Cp_isExecutedAhead, jp_Cp_isExecutedAhead, 3)
def jc_Cp_isExecutedAhead_1 (D : Nat) (kk : Int32 → jaT → Prop) (k : Nat) (c : Nat) (x1 : Int32) (x2 : Int32) (σ : jaT) : Prop := jaC (jaDe D) jm_Cp_isExecutedAhead (jaKi kk) 1 [some (.inr (.inr (50, k, c))), some (.inl x1), some (.inl x2)] [] σ
theorem js_Cp_isExecutedAhead {D : Nat} {kk : Int32 → jaT → Prop} {σ : jaT} {k : Nat} {c : Nat} {x1 : Int32} (h :
  jc_Cp_isExecutedAhead_1 D kk k c x1 (nI 0) σ) :
  jaDe (D + 1) jy_Cp_isExecutedAhead [.inr (.inr (50, k, c)), .inl x1] σ (jaKi kk) :=
  jaCall_intro (mt := jaMt) (y := jy_Cp_isExecutedAhead) (f := jf_Cp_isExecutedAhead) (ps := jp_Cp_isExecutedAhead) (nL := 3) rfl rfl (jaRun_go (jaCall_self jaAr jaMt D) [1] 6 _ _ _ _ h)
theorem jb_Cp_isExecutedAhead_1 {D : Nat} {kk : Int32 → jaT → Prop} {σ : jaT} {k : Nat} {c : Nat} {x1 : Int32} {x2 : Int32} (h :
  (x1 ≤ x2 → ((nI 1) = 0 ∨ (nI 1) = 1) ∧ kk (nI 1) σ) ∧
  (¬ x1 ≤ x2 → 
    ((nI 40) ≤ x2 → ((nI 1) = 0 ∨ (nI 1) = 1) ∧ kk (nI 1) σ) ∧
    (¬ (nI 40) ≤ x2 → 
      (jaDe D) jy_Cp_isExecuted [.inr (.inr (50, k, c)), .inl x2] σ (jaKi fun r2 σ1 =>
        (¬ r2 = 0 → jc_Cp_isExecutedAhead_1 D kk k c x1 (x2 + (nI 1)) σ1) ∧
        (r2 = 0 → ((nI 0) = 0 ∨ (nI 0) = 1) ∧ kk (nI 0) σ1))))) :
  jc_Cp_isExecutedAhead_1 D kk k c x1 x2 σ :=
  jaRun_go (jaCall_self jaAr jaMt D) [1] 17 _ _ _ _ h
abbrev jm_En_copyFrom : jaM := (jf_En_copyFrom, jp_En_copyFrom, 3)
def jc_En_copyFrom_1 (D : Nat) (kk : jaT → Prop) (k : Nat) (k1 : Nat) (x2 : Int32) (σ : jaT) : Prop := jaC (jaDe D) jm_En_copyFrom (jaKv kk) 1 [some (.inr (.inr (60, k, 0))), some (.inr (.inr (60, k1, 0))), some (.inl x2)] [] σ
def jc_En_copyFrom_3 (D : Nat) (kk : jaT → Prop) (k : Nat) (k1 : Nat) (x2 : Int32) (σ : jaT) : Prop := jaC (jaDe D) jm_En_copyFrom (jaKv kk) 3 [some (.inr (.inr (60, k, 0))), some (.inr (.inr (60, k1, 0))), some (.inl x2)] [] σ
def jc_En_copyFrom_5 (D : Nat) (kk : jaT → Prop) (k : Nat) (k1 : Nat) (x2 : Int32) (σ : jaT) : Prop := jaC (jaDe D) jm_En_copyFrom (jaKv kk) 5 [some (.inr (.inr (60, k, 0))), some (.inr (.inr (60, k1, 0))), some (.inl x2)] [] σ
theorem js_En_copyFrom {D : Nat} {kk : jaT → Prop} {σ : jaT} {k : Nat} {k1 : Nat} (h :
  let σ1 : jaT := jaU σ k (jaUI (σ k) 60 0 0 ((σ k1).1 60 0 0))
  let σ2 : jaT := jaU σ1 k (jaUI (σ1 k) 60 0 1 ((σ1 k1).1 60 0 1))
  jc_En_copyFrom_1 D kk k k1 (nI 0) σ2) :
  jaDe (D + 1) jy_En_copyFrom [.inr (.inr (60, k, 0)), .inr (.inr (60, k1, 0))] σ (jaKv kk) :=
  jaCall_intro (mt := jaMt) (y := jy_En_copyFrom) (f := jf_En_copyFrom) (ps := jp_En_copyFrom) (nL := 3) rfl rfl (jaRun_go (jaCall_self jaAr jaMt D) [1, 3, 5] 14 _ _ _ _ h)
set_option maxRecDepth 20000 in
theorem jb_En_copyFrom_1 {D : Nat} {kk : jaT → Prop} {σ : jaT} {k : Nat} {k1 : Nat} {x2 : Int32} (h :
  (((σ k).1 60 0 0) ≤ x2 → jc_En_copyFrom_3 D kk k k1 (nI 0) σ) ∧
  (¬ ((σ k).1 60 0 0) ≤ x2 → 
    vp_in x2 64 ∧ (vp_in x2 64 ∧ 
    (let σ1 : jaT := jaU σ k (jaUI (σ k) 61 0 (jaIx x2) ((σ k1).1 61 0 (jaIx x2)))
    vp_in x2 64 ∧ (vp_in x2 64 ∧ 
    (let σ2 : jaT := jaU σ1 k (jaUI (σ1 k) 62 0 (jaIx x2) ((σ1 k1).1 62 0 (jaIx x2)))
    vp_in x2 64 ∧ (vp_in x2 64 ∧ 
    (let σ3 : jaT := jaU σ2 k (jaUI (σ2 k) 63 0 (jaIx x2) ((σ2 k1).1 63 0 (jaIx x2)))
    vp_in x2 64 ∧ (vp_in x2 64 ∧ (((σ3 k1).1 64 0 (jaIx x2)) = 0 ∨ ((σ3 k1).1 64 0 (jaIx x2)) = 1) ∧ 
    (let σ4 : jaT := jaU σ3 k (jaUI (σ3 k) 64 0 (jaIx x2) ((σ3 k1).1 64 0 (jaIx x2)))
    vp_in x2 64 ∧ (vp_in x2 64 ∧ (((σ4 k1).1 65 0 (jaIx x2)) = 0 ∨ ((σ4 k1).1 65 0 (jaIx x2)) = 1) ∧ 
    (let σ5 : jaT := jaU σ4 k (jaUI (σ4 k) 65 0 (jaIx x2) ((σ4 k1).1 65 0 (jaIx x2)))
    vp_in x2 64 ∧ (vp_in x2 64 ∧ 
    (let σ6 : jaT := jaU σ5 k (jaUI (σ5 k) 66 0 (jaIx x2) ((σ5 k1).1 66 0 (jaIx x2)))
    jc_En_copyFrom_1 D kk k k1 (x2 + (nI 1)) σ6)))))))))))))) :
  jc_En_copyFrom_1 D kk k k1 x2 σ :=
  jaRun_go (jaCall_self jaAr jaMt D) [1, 3, 5] 57 _ _ _ _ h
theorem jb_En_copyFrom_3 {D : Nat} {kk : jaT → Prop} {σ : jaT} {k : Nat} {k1 : Nat} {x2 : Int32} (h :
  ((((σ k).1 60 0 0) * (nI 4)) ≤ x2 → jc_En_copyFrom_5 D kk k k1 (nI 0) σ) ∧
  (¬ (((σ k).1 60 0 0) * (nI 4)) ≤ x2 → 
    vp_in x2 256 ∧ (vp_in x2 256 ∧ 
    (let σ1 : jaT := jaU σ k (jaUI (σ k) 67 0 (jaIx x2) ((σ k1).1 67 0 (jaIx x2)))
    jc_En_copyFrom_3 D kk k k1 (x2 + (nI 1)) σ1)))) :
  jc_En_copyFrom_3 D kk k k1 x2 σ :=
  jaRun_go (jaCall_self jaAr jaMt D) [1, 3, 5] 19 _ _ _ _ h
theorem jb_En_copyFrom_5 {D : Nat} {kk : jaT → Prop} {σ : jaT} {k : Nat} {k1 : Nat} {x2 : Int32} (h :
  (((σ k).1 60 0 1) ≤ x2 → kk σ) ∧
  (¬ ((σ k).1 60 0 1) ≤ x2 → 
    vp_in x2 40 ∧ (vp_in x2 40 ∧ 
    (let σ1 : jaT := jaU σ k (jaUI (σ k) 68 0 (jaIx x2) ((σ k1).1 68 0 (jaIx x2)))
    jc_En_copyFrom_5 D kk k k1 (x2 + (nI 1)) σ1)))) :
  jc_En_copyFrom_5 D kk k k1 x2 σ :=
  jaRun_go (jaCall_self jaAr jaMt D) [1, 3, 5] 17 _ _ _ _ h
abbrev jm_En_countOf : jaM := (jf_En_countOf, jp_En_countOf, 4)
def jc_En_countOf_1 (D : Nat) (kk : Int32 → jaT → Prop) (k : Nat) (x1 : Int32) (x2 : Int32) (x3 : Int32) (σ : jaT) : Prop := jaC (jaDe D) jm_En_countOf (jaKi kk) 1 [some (.inr (.inr (60, k, 0))), some (.inl x1), some (.inl x2), some (.inl x3)] [] σ
theorem js_En_countOf {D : Nat} {kk : Int32 → jaT → Prop} {σ : jaT} {k : Nat} {x1 : Int32} (h :
  jc_En_countOf_1 D kk k x1 (nI 0) (nI 0) σ) :
  jaDe (D + 1) jy_En_countOf [.inr (.inr (60, k, 0)), .inl x1] σ (jaKi kk) :=
  jaCall_intro (mt := jaMt) (y := jy_En_countOf) (f := jf_En_countOf) (ps := jp_En_countOf) (nL := 4) rfl rfl (jaRun_go (jaCall_self jaAr jaMt D) [1] 8 _ _ _ _ h)
theorem jb_En_countOf_1 {D : Nat} {kk : Int32 → jaT → Prop} {σ : jaT} {k : Nat} {x1 : Int32} {x2 : Int32} {x3 : Int32} (h :
  (((σ k).1 60 0 0) ≤ x3 → kk x2 σ) ∧
  (¬ ((σ k).1 60 0 0) ≤ x3 → 
    vp_in x3 64 ∧ ((¬ ((σ k).1 61 0 (jaIx x3)) = x1 → jc_En_countOf_1 D kk k x1 x2 (x3 + (nI 1)) σ) ∧
    (((σ k).1 61 0 (jaIx x3)) = x1 → jc_En_countOf_1 D kk k x1 (x2 + (nI 1)) (x3 + (nI 1)) σ)))) :
  jc_En_countOf_1 D kk k x1 x2 x3 σ :=
  jaRun_go (jaCall_self jaAr jaMt D) [1] 17 _ _ _ _ h
abbrev jm_En_lastPlaceOf : jaM := (jf_En_lastPlaceOf, jp_En_lastPlaceOf, 3)
def jc_En_lastPlaceOf_1 (D : Nat) (kk : Int32 → jaT → Prop) (k : Nat) (x1 : Int32) (x2 : Int32) (σ : jaT) : Prop := jaC (jaDe D) jm_En_lastPlaceOf (jaKi kk) 1 [some (.inr (.inr (60, k, 0))), some (.inl x1), some (.inl x2)] [] σ
theorem js_En_lastPlaceOf {D : Nat} {kk : Int32 → jaT → Prop} {σ : jaT} {k : Nat} {x1 : Int32} (h :
  jc_En_lastPlaceOf_1 D kk k x1 (((σ k).1 60 0 1) - (nI 1)) σ) :
  jaDe (D + 1) jy_En_lastPlaceOf [.inr (.inr (60, k, 0)), .inl x1] σ (jaKi kk) :=
  jaCall_intro (mt := jaMt) (y := jy_En_lastPlaceOf) (f := jf_En_lastPlaceOf) (ps := jp_En_lastPlaceOf) (nL := 3) rfl rfl (jaRun_go (jaCall_self jaAr jaMt D) [1] 9 _ _ _ _ h)
theorem jb_En_lastPlaceOf_1 {D : Nat} {kk : Int32 → jaT → Prop} {σ : jaT} {k : Nat} {x1 : Int32} {x2 : Int32} (h :
  (x2 < 0 → kk (-1 : Int32) σ) ∧
  (¬ x2 < 0 → 
    vp_in x2 40 ∧ (vp_in ((σ k).1 68 0 (jaIx x2)) 64 ∧ ((¬ ((σ k).1 61 0 (jaIx ((σ k).1 68 0 (jaIx x2)))) = x1 → jc_En_lastPlaceOf_1 D kk k x1 (x2 + (-1 : Int32)) σ) ∧
    (((σ k).1 61 0 (jaIx ((σ k).1 68 0 (jaIx x2)))) = x1 → kk x2 σ))))) :
  jc_En_lastPlaceOf_1 D kk k x1 x2 σ :=
  jaRun_go (jaCall_self jaAr jaMt D) [1] 16 _ _ _ _ h
abbrev jm_En_conflict : jaM := (jf_En_conflict, jp_En_conflict, 5)
set_option maxRecDepth 20000 in
theorem js_En_conflict {D : Nat} {kk : Int32 → jaT → Prop} {σ : jaT} {k : Nat} {x1 : Int32} {x2 : Int32} (h :
  vp_in x1 40 ∧ (vp_in x2 40 ∧ (vp_in ((σ k).1 68 0 (jaIx x1)) 64 ∧ (vp_in ((σ k).1 68 0 (jaIx x2)) 64 ∧ (vp_in ((σ k).1 68 0 (jaIx x2)) 64 ∧ ((¬ (((σ k).1 63 0 (jaIx ((σ k).1 68 0 (jaIx x1)))) &&& (((σ k).1 62 0 (jaIx ((σ k).1 68 0 (jaIx x2)))) ||| ((σ k).1 63 0 (jaIx ((σ k).1 68 0 (jaIx x2)))))) = 0 → ((nI 1) = 0 ∨ (nI 1) = 1) ∧ kk (nI 1) σ) ∧
  ((((σ k).1 63 0 (jaIx ((σ k).1 68 0 (jaIx x1)))) &&& (((σ k).1 62 0 (jaIx ((σ k).1 68 0 (jaIx x2)))) ||| ((σ k).1 63 0 (jaIx ((σ k).1 68 0 (jaIx x2)))))) = 0 → 
    vp_in ((σ k).1 68 0 (jaIx x2)) 64 ∧ (vp_in ((σ k).1 68 0 (jaIx x1)) 64 ∧ (((((σ k).1 63 0 (jaIx ((σ k).1 68 0 (jaIx x2)))) &&& ((σ k).1 62 0 (jaIx ((σ k).1 68 0 (jaIx x1))))) = 0 → ((nI 0) = 0 ∨ (nI 0) = 1) ∧ kk (nI 0) σ) ∧
    (¬ (((σ k).1 63 0 (jaIx ((σ k).1 68 0 (jaIx x2)))) &&& ((σ k).1 62 0 (jaIx ((σ k).1 68 0 (jaIx x1))))) = 0 → ((nI 1) = 0 ∨ (nI 1) = 1) ∧ kk (nI 1) σ)))))))))) :
  jaDe (D + 1) jy_En_conflict [.inr (.inr (60, k, 0)), .inl x1, .inl x2] σ (jaKi kk) :=
  jaCall_intro (mt := jaMt) (y := jy_En_conflict) (f := jf_En_conflict) (ps := jp_En_conflict) (nL := 5) rfl rfl (jaRun_go (jaCall_self jaAr jaMt D) [] 42 _ _ _ _ h)
abbrev jm_En_conflictsAhead : jaM := (jf_En_conflictsAhead, jp_En_conflictsAhead, 4)
def jc_En_conflictsAhead_1 (D : Nat) (kk : Int32 → jaT → Prop) (k : Nat) (x1 : Int32) (x2 : Int32) (x3 : Int32) (σ : jaT) : Prop := jaC (jaDe D) jm_En_conflictsAhead (jaKi kk) 1 [some (.inr (.inr (60, k, 0))), some (.inl x1), some (.inl x2), some (.inl x3)] [] σ
theorem js_En_conflictsAhead {D : Nat} {kk : Int32 → jaT → Prop} {σ : jaT} {k : Nat} {x1 : Int32} (h :
  jc_En_conflictsAhead_1 D kk k x1 (nI 0) (nI 0) σ) :
  jaDe (D + 1) jy_En_conflictsAhead [.inr (.inr (60, k, 0)), .inl x1] σ (jaKi kk) :=
  jaCall_intro (mt := jaMt) (y := jy_En_conflictsAhead) (f := jf_En_conflictsAhead) (ps := jp_En_conflictsAhead) (nL := 4) rfl rfl (jaRun_go (jaCall_self jaAr jaMt D) [1] 8 _ _ _ _ h)
theorem jb_En_conflictsAhead_1 {D : Nat} {kk : Int32 → jaT → Prop} {σ : jaT} {k : Nat} {x1 : Int32} {x2 : Int32} {x3 : Int32} (h :
  (x1 ≤ x3 → kk x2 σ) ∧
  (¬ x1 ≤ x3 → 
    (jaDe D) jy_En_conflict [.inr (.inr (60, k, 0)), .inl x3, .inl x1] σ (jaKi fun r2 σ1 =>
      (r2 = 0 → jc_En_conflictsAhead_1 D kk k x1 x2 (x3 + (nI 1)) σ1) ∧
      (¬ r2 = 0 → 
        jc_En_conflictsAhead_1 D kk k x1 (x2 + (nI 1)) (x3 + (nI 1)) σ1)))) :
  jc_En_conflictsAhead_1 D kk k x1 x2 x3 σ :=
  jaRun_go (jaCall_self jaAr jaMt D) [1] 15 _ _ _ _ h
abbrev jm_En_longestRow : jaM := (jf_En_longestRow, jp_En_longestRow, 6)
def jc_En_longestRow_1 (D : Nat) (kk : Int32 → jaT → Prop) (k : Nat) (x1 : Int32) (x2 : Int32) (x3 : Int32) (u4 : Option jaV) (u5 : Option jaV) (σ : jaT) : Prop := jaC (jaDe D) jm_En_longestRow (jaKi kk) 1 [some (.inr (.inr (60, k, 0))), some (.inl x1), some (.inl x2), some (.inl x3), u4, u5] [] σ
def jc_En_longestRow_2 (D : Nat) (kk : Int32 → jaT → Prop) (k : Nat) (x1 : Int32) (x2 : Int32) (x3 : Int32) (x4 : Int32) (x5 : Int32) (σ : jaT) : Prop := jaC (jaDe D) jm_En_longestRow (jaKi kk) 2 [some (.inr (.inr (60, k, 0))), some (.inl x1), some (.inl x2), some (.inl x3), some (.inl x4), some (.inl x5)] [] σ
theorem js_En_longestRow {D : Nat} {kk : Int32 → jaT → Prop} {σ : jaT} {k : Nat} {x1 : Int32} (h :
  jc_En_longestRow_1 D kk k x1 (nI 0) (nI 0) none none σ) :
  jaDe (D + 1) jy_En_longestRow [.inr (.inr (60, k, 0)), .inl x1] σ (jaKi kk) :=
  jaCall_intro (mt := jaMt) (y := jy_En_longestRow) (f := jf_En_longestRow) (ps := jp_En_longestRow) (nL := 6) rfl rfl (jaRun_go (jaCall_self jaAr jaMt D) [1, 2] 8 _ _ _ _ h)
theorem jb_En_longestRow_1 {D : Nat} {kk : Int32 → jaT → Prop} {σ : jaT} {k : Nat} {x1 : Int32} {x2 : Int32} {x3 : Int32} {u4 : Option jaV} {u5 : Option jaV} (h :
  (((σ k).1 60 0 1) ≤ x3 → kk x2 σ) ∧
  (¬ ((σ k).1 60 0 1) ≤ x3 → jc_En_longestRow_2 D kk k x1 x2 x3 (nI 0) (nI 0) σ)) :
  jc_En_longestRow_1 D kk k x1 x2 x3 u4 u5 σ :=
  jaRun_go (jaCall_self jaAr jaMt D) [1, 2] 12 _ _ _ _ h
theorem jb_En_longestRow_2 {D : Nat} {kk : Int32 → jaT → Prop} {σ : jaT} {k : Nat} {x1 : Int32} {x2 : Int32} {x3 : Int32} {x4 : Int32} {x5 : Int32} (h :
  (x3 ≤ x5 → 
    vp_in x3 40 ∧ (vp_in ((σ k).1 68 0 (jaIx x3)) 64 ∧ ((((σ k).1 64 0 (jaIx ((σ k).1 68 0 (jaIx x3)))) = 0 → 
      vp_in x3 40 ∧ 
      (let σ1 : jaT := jaU σ k (jaUI (σ k) 69 0 (jaIx x3) (x4 + (nI 1)))
      vp_in x3 40 ∧ (jaDe D) jy_JM_max [.inl x2, .inl ((σ1 k).1 69 0 (jaIx x3))] σ1 (jaKi fun r3 σ2 =>
        jc_En_longestRow_1 D kk k x1 r3 (x3 + (nI 1)) (some (.inl x4)) (some (.inl x5)) σ2))) ∧
    (¬ ((σ k).1 64 0 (jaIx ((σ k).1 68 0 (jaIx x3)))) = 0 → 
      vp_in x3 40 ∧ 
      (let σ4 : jaT := jaU σ k (jaUI (σ k) 69 0 (jaIx x3) (x4 + x1))
      vp_in x3 40 ∧ (jaDe D) jy_JM_max [.inl x2, .inl ((σ4 k).1 69 0 (jaIx x3))] σ4 (jaKi fun r6 σ5 =>
        jc_En_longestRow_1 D kk k x1 r6 (x3 + (nI 1)) (some (.inl x4)) (some (.inl x5)) σ5)))))) ∧
  (¬ x3 ≤ x5 → 
    vp_in x5 40 ∧ ((((σ k).1 69 0 (jaIx x5)) ≤ x4 → jc_En_longestRow_2 D kk k x1 x2 x3 x4 (x5 + (nI 1)) σ) ∧
    (¬ ((σ k).1 69 0 (jaIx x5)) ≤ x4 → 
      (jaDe D) jy_En_conflict [.inr (.inr (60, k, 0)), .inl x5, .inl x3] σ (jaKi fun r8 σ7 =>
        (r8 = 0 → jc_En_longestRow_2 D kk k x1 x2 x3 x4 (x5 + (nI 1)) σ7) ∧
        (¬ r8 = 0 → 
          vp_in x5 40 ∧ jc_En_longestRow_2 D kk k x1 x2 x3 ((σ7 k).1 69 0 (jaIx x5)) (x5 + (nI 1)) σ7)))))) :
  jc_En_longestRow_2 D kk k x1 x2 x3 x4 x5 σ :=
  jaRun_go (jaCall_self jaAr jaMt D) [1, 2] 31 _ _ _ _ h
abbrev jm_Rd_begin : jaM := (jf_Rd_begin, jp_Rd_begin, 6)
def jc_Rd_begin_1 (D : Nat) (kk : jaT → Prop) (x2 : Int32) (x3 : Int32) (x4 : Int32) (x5 : Int32) (σ : jaT) : Prop := jaC (jaDe D) jm_Rd_begin (jaKv kk) 1 [some (.inr (.inr (2, 0, 0))), some (.inr (.inr (1, 0, 0))), some (.inl x2), some (.inl x3), some (.inl x4), some (.inl x5)] [] σ
theorem js_Rd_begin {D : Nat} {kk : jaT → Prop} {σ : jaT} {x2 : Int32} {x3 : Int32} (h :
  let σ1 : jaT := jaU σ 0 (jaUI (σ 0) 2 0 3 (nI 0))
  let σ2 : jaT := jaU σ1 0 (jaUI (σ1 0) 2 0 4 (nI 0))
  let σ3 : jaT := jaU σ2 0 (jaUI (σ2 0) 2 0 5 (nI 0))
  let σ4 : jaT := jaU σ3 0 (jaUI (σ3 0) 2 0 6 (nI 0))
  jc_Rd_begin_1 D kk x2 x3 (nI 0) (nI 0) σ4) :
  jaDe (D + 1) jy_Rd_begin [.inr (.inr (2, 0, 0)), .inr (.inr (1, 0, 0)), .inl x2, .inl x3] σ (jaKv kk) :=
  jaCall_intro (mt := jaMt) (y := jy_Rd_begin) (f := jf_Rd_begin) (ps := jp_Rd_begin) (nL := 6) rfl rfl (jaRun_go (jaCall_self jaAr jaMt D) [1] 20 _ _ _ _ h)
theorem jb_Rd_begin_1 {D : Nat} {kk : jaT → Prop} {σ : jaT} {x2 : Int32} {x3 : Int32} {x4 : Int32} {x5 : Int32} (h :
  (x2 ≤ x5 → 
    (x2 ≤ x3 → 
      (jaDe D) jy_Rd_addToken [.inr (.inr (2, 0, 0)), .inl (nI 1), .inl x2, .inr (.inl (Int64.ofNat 0))] σ (jaKv fun σ1 =>
        kk σ1)) ∧
    (¬ x2 ≤ x3 → 
      (jaDe D) jy_Rd_addToken [.inr (.inr (2, 0, 0)), .inl (nI 0), .inl x3, .inr (.inl (Int64.ofNat 0))] σ (jaKv fun σ2 =>
        kk σ2))) ∧
  (¬ x2 ≤ x5 → 
    (x3 ≤ x5 → 
      (x2 ≤ x3 → 
        (jaDe D) jy_Rd_addToken [.inr (.inr (2, 0, 0)), .inl (nI 1), .inl x2, .inr (.inl (Int64.ofNat 0))] σ (jaKv fun σ3 =>
          kk σ3)) ∧
      (¬ x2 ≤ x3 → 
        (jaDe D) jy_Rd_addToken [.inr (.inr (2, 0, 0)), .inl (nI 0), .inl x3, .inr (.inl (Int64.ofNat 0))] σ (jaKv fun σ4 =>
          kk σ4))) ∧
    (¬ x3 ≤ x5 → 
      (x5 < x4 → jc_Rd_begin_1 D kk x2 x3 x4 (x5 + (nI 1)) σ) ∧
      (¬ x5 < x4 → 
        vp_in x5 940 ∧ ((((σ 0).1 1 0 (jaIx x5)) = (nI 32) → jc_Rd_begin_1 D kk x2 x3 x4 (x5 + (nI 1)) σ) ∧
        (¬ ((σ 0).1 1 0 (jaIx x5)) = (nI 32) → 
          vp_in x5 940 ∧ ((((σ 0).1 1 0 (jaIx x5)) = (nI 10) → jc_Rd_begin_1 D kk x2 x3 x4 (x5 + (nI 1)) σ) ∧
          (¬ ((σ 0).1 1 0 (jaIx x5)) = (nI 10) → 
            (jaDe D) jy_Rd_readToken [.inr (.inr (2, 0, 0)), .inr (.inr (1, 0, 0)), .inl x2, .inl x5] σ (jaKi fun r6 σ5 =>
              jc_Rd_begin_1 D kk x2 x3 r6 (x5 + (nI 1)) σ5))))))))) :
  jc_Rd_begin_1 D kk x2 x3 x4 x5 σ :=
  jaRun_go (jaCall_self jaAr jaMt D) [1] 31 _ _ _ _ h
abbrev jm_Rd_addToken : jaM := (jf_Rd_addToken, jp_Rd_addToken, 5)
theorem js_Rd_addToken {D : Nat} {kk : jaT → Prop} {σ : jaT} {x1 : Int32} {x2 : Int32} {x3 : Int64} (h :
  ((nI 941) ≤ ((σ 0).1 2 0 3) → kk σ) ∧
  (¬ (nI 941) ≤ ((σ 0).1 2 0 3) → 
    vp_in ((σ 0).1 2 0 3) 941 ∧ 
    (let σ1 : jaT := jaU σ 0 (jaUI (σ 0) 3 0 (jaIx ((σ 0).1 2 0 3)) x1)
    vp_in ((σ1 0).1 2 0 3) 941 ∧ 
    (let σ2 : jaT := jaU σ1 0 (jaUI (σ1 0) 4 0 (jaIx ((σ1 0).1 2 0 3)) x2)
    vp_in ((σ2 0).1 2 0 3) 941 ∧ 
    (let σ3 : jaT := jaU σ2 0 (jaUL (σ2 0) 5 0 (jaIx ((σ2 0).1 2 0 3)) x3)
    let σ4 : jaT := jaU σ3 0 (jaUI (σ3 0) 2 0 3 (((σ3 0).1 2 0 3) + (nI 1)))
    kk σ4))))) :
  jaDe (D + 1) jy_Rd_addToken [.inr (.inr (2, 0, 0)), .inl x1, .inl x2, .inr (.inl x3)] σ (jaKv kk) :=
  jaCall_intro (mt := jaMt) (y := jy_Rd_addToken) (f := jf_Rd_addToken) (ps := jp_Rd_addToken) (nL := 5) rfl rfl (jaRun_go (jaCall_self jaAr jaMt D) [] 35 _ _ _ _ h)
abbrev jm_Rd_readToken : jaM := (jf_Rd_readToken, jp_Rd_readToken, 11)
def jc_Rd_readToken_4 (D : Nat) (kk : Int32 → jaT → Prop) (x2 : Int32) (x3 : Int32) (x4 : Int32) (x5 : Int32) (x6 : Int64) (x8 : Int64) (x10 : Int32) (σ : jaT) : Prop := jaC (jaDe D) jm_Rd_readToken (jaKi kk) 4 [some (.inr (.inr (2, 0, 0))), some (.inr (.inr (1, 0, 0))), some (.inl x2), some (.inl x3), some (.inl x4), some (.inl x5), some (.inr (.inl x6)), none, some (.inr (.inl x8)), none, some (.inl x10)] [] σ
theorem js_Rd_readToken {D : Nat} {kk : Int32 → jaT → Prop} {σ : jaT} {x2 : Int32} {x3 : Int32} (h :
  vp_in x3 940 ∧ ((jaDe D) jy_Rd_isLetter [.inl ((σ 0).1 1 0 (jaIx x3))] σ (jaKi fun r2 σ1 =>
    (¬ r2 = 0 → 
      jc_Rd_readToken_4 D kk x2 x3 (nI 0) (nI 0) (Int64.ofNat 0) (Int64.ofNat 0) x3 σ1) ∧
    (r2 = 0 → 
      vp_in x3 940 ∧ ((jaDe D) jy_Rd_isDigit [.inl ((σ1 0).1 1 0 (jaIx x3))] σ1 (jaKi fun r4 σ3 =>
        (¬ r4 = 0 → 
          jc_Rd_readToken_4 D kk x2 x3 (nI 0) (nI 0) (Int64.ofNat 0) (Int64.ofNat 0) x3 σ3) ∧
        (r4 = 0 → 
          vp_in x3 940 ∧ ((jaDe D) jy_JS_indexOfS [.inr (.inr (100, 23, 0)), .inl ((Int32.toUInt32 ((σ3 0).1 1 0 (jaIx x3)) % 65536).toInt32)] σ3 (jaKi fun r6 σ5 =>
            (r6 < 0 → 
              (jaDe D) jy_Rd_addToken [.inr (.inr (2, 0, 0)), .inl (nI 0), .inl x3, .inr (.inl (Int64.ofNat 0))] σ5 (jaKv fun σ7 =>
                kk (x3 + (nI 1)) σ7)) ∧
            (¬ r6 < 0 → 
              vp_in x3 940 ∧ (jaDe D) jy_Rd_addToken [.inr (.inr (2, 0, 0)), .inl ((σ5 0).1 1 0 (jaIx x3)), .inl x3, .inr (.inl (Int64.ofNat 0))] σ5 (jaKv fun σ8 =>
                kk (x3 + (nI 1)) σ8))))))))))) :
  jaDe (D + 1) jy_Rd_readToken [.inr (.inr (2, 0, 0)), .inr (.inr (1, 0, 0)), .inl x2, .inl x3] σ (jaKi kk) :=
  jaCall_intro (mt := jaMt) (y := jy_Rd_readToken) (f := jf_Rd_readToken) (ps := jp_Rd_readToken) (nL := 11) rfl rfl (jaRun_go (jaCall_self jaAr jaMt D) [4] 32 _ _ _ _ h)
theorem jb_Rd_readToken_4 {D : Nat} {kk : Int32 → jaT → Prop} {σ : jaT} {x2 : Int32} {x3 : Int32} {x4 : Int32} {x5 : Int32} {x6 : Int64} {x8 : Int64} {x10 : Int32} (h :
  (x2 ≤ x10 → 
    (¬ x4 = 0 → 
      (¬ x5 = 0 → 
        (jaDe D) jy_Rd_addToken [.inr (.inr (2, 0, 0)), .inl (nI 0), .inl x3, .inr (.inl (Int64.ofNat 0))] σ (jaKv fun σ1 =>
          kk x10 σ1)) ∧
      (x5 = 0 → 
        ((nI 7) < x4 → 
          (jaDe D) jy_Rd_addToken [.inr (.inr (2, 0, 0)), .inl (nI 0), .inl x3, .inr (.inl (Int64.ofNat 0))] σ (jaKv fun σ2 =>
            kk x10 σ2)) ∧
        (¬ (nI 7) < x4 → 
          (jaDe D) jy_Rd_kindOfWord [.inr (.inl x8)] σ (jaKi fun r4 σ3 =>
            (jaDe D) jy_Rd_addToken [.inr (.inr (2, 0, 0)), .inl r4, .inl x3, .inr (.inl x8)] σ3 (jaKv fun σ5 =>
              kk x10 σ5))))) ∧
    (x4 = 0 → 
      ((nI 3) < x5 → 
        (¬ x5 = 0 → 
          (jaDe D) jy_Rd_addToken [.inr (.inr (2, 0, 0)), .inl (nI 0), .inl x3, .inr (.inl (Int64.ofNat 0))] σ (jaKv fun σ6 =>
            kk x10 σ6)) ∧
        (x5 = 0 → 
          ((nI 7) < x4 → 
            (jaDe D) jy_Rd_addToken [.inr (.inr (2, 0, 0)), .inl (nI 0), .inl x3, .inr (.inl (Int64.ofNat 0))] σ (jaKv fun σ7 =>
              kk x10 σ7)) ∧
          (¬ (nI 7) < x4 → 
            (jaDe D) jy_Rd_kindOfWord [.inr (.inl x8)] σ (jaKi fun r9 σ8 =>
              (jaDe D) jy_Rd_addToken [.inr (.inr (2, 0, 0)), .inl r9, .inl x3, .inr (.inl x8)] σ8 (jaKv fun σ10 =>
                kk x10 σ10))))) ∧
      (¬ (nI 3) < x5 → 
        (jaDe D) jy_Rd_addToken [.inr (.inr (2, 0, 0)), .inl (nI 2), .inl x3, .inr (.inl x6)] σ (jaKv fun σ11 =>
          kk x10 σ11)))) ∧
  (¬ x2 ≤ x10 → 
    vp_in x10 940 ∧ ((jaDe D) jy_Rd_isLetter [.inl ((σ 0).1 1 0 (jaIx x10))] σ (jaKi fun r13 σ12 =>
      (¬ r13 = 0 → 
        vp_in x10 940 ∧ ((jaDe D) jy_Rd_isDigit [.inl ((σ12 0).1 1 0 (jaIx x10))] σ12 (jaKi fun r15 σ14 =>
          (r15 = 0 → 
            vp_in x10 940 ∧ jc_Rd_readToken_4 D kk x2 x3 (x4 + (nI 1)) x5 x6 ((x8 * (Int64.ofNat 256)) + (Int32.toInt64 ((σ14 0).1 1 0 (jaIx x10)))) (x10 + (nI 1)) σ14) ∧
          (¬ r15 = 0 → 
            vp_in x10 940 ∧ jc_Rd_readToken_4 D kk x2 x3 x4 (x5 + (nI 1)) (((x6 * (Int64.ofNat 10)) + (Int32.toInt64 ((σ14 0).1 1 0 (jaIx x10)))) - (Int64.ofNat 48)) x8 (x10 + (nI 1)) σ14)))) ∧
      (r13 = 0 → 
        vp_in x10 940 ∧ ((jaDe D) jy_Rd_isDigit [.inl ((σ12 0).1 1 0 (jaIx x10))] σ12 (jaKi fun r17 σ16 =>
          (r17 = 0 → 
            (¬ x4 = 0 → 
              (¬ x5 = 0 → 
                (jaDe D) jy_Rd_addToken [.inr (.inr (2, 0, 0)), .inl (nI 0), .inl x3, .inr (.inl (Int64.ofNat 0))] σ16 (jaKv fun σ18 =>
                  kk x10 σ18)) ∧
              (x5 = 0 → 
                ((nI 7) < x4 → 
                  (jaDe D) jy_Rd_addToken [.inr (.inr (2, 0, 0)), .inl (nI 0), .inl x3, .inr (.inl (Int64.ofNat 0))] σ16 (jaKv fun σ19 =>
                    kk x10 σ19)) ∧
                (¬ (nI 7) < x4 → 
                  (jaDe D) jy_Rd_kindOfWord [.inr (.inl x8)] σ16 (jaKi fun r21 σ20 =>
                    (jaDe D) jy_Rd_addToken [.inr (.inr (2, 0, 0)), .inl r21, .inl x3, .inr (.inl x8)] σ20 (jaKv fun σ22 =>
                      kk x10 σ22))))) ∧
            (x4 = 0 → 
              ((nI 3) < x5 → 
                (¬ x5 = 0 → 
                  (jaDe D) jy_Rd_addToken [.inr (.inr (2, 0, 0)), .inl (nI 0), .inl x3, .inr (.inl (Int64.ofNat 0))] σ16 (jaKv fun σ23 =>
                    kk x10 σ23)) ∧
                (x5 = 0 → 
                  ((nI 7) < x4 → 
                    (jaDe D) jy_Rd_addToken [.inr (.inr (2, 0, 0)), .inl (nI 0), .inl x3, .inr (.inl (Int64.ofNat 0))] σ16 (jaKv fun σ24 =>
                      kk x10 σ24)) ∧
                  (¬ (nI 7) < x4 → 
                    (jaDe D) jy_Rd_kindOfWord [.inr (.inl x8)] σ16 (jaKi fun r26 σ25 =>
                      (jaDe D) jy_Rd_addToken [.inr (.inr (2, 0, 0)), .inl r26, .inl x3, .inr (.inl x8)] σ25 (jaKv fun σ27 =>
                        kk x10 σ27))))) ∧
              (¬ (nI 3) < x5 → 
                (jaDe D) jy_Rd_addToken [.inr (.inr (2, 0, 0)), .inl (nI 2), .inl x3, .inr (.inl x6)] σ16 (jaKv fun σ28 =>
                  kk x10 σ28)))) ∧
          (¬ r17 = 0 → 
            vp_in x10 940 ∧ ((jaDe D) jy_Rd_isDigit [.inl ((σ16 0).1 1 0 (jaIx x10))] σ16 (jaKi fun r30 σ29 =>
              (r30 = 0 → 
                vp_in x10 940 ∧ jc_Rd_readToken_4 D kk x2 x3 (x4 + (nI 1)) x5 x6 ((x8 * (Int64.ofNat 256)) + (Int32.toInt64 ((σ29 0).1 1 0 (jaIx x10)))) (x10 + (nI 1)) σ29) ∧
              (¬ r30 = 0 → 
                vp_in x10 940 ∧ jc_Rd_readToken_4 D kk x2 x3 x4 (x5 + (nI 1)) (((x6 * (Int64.ofNat 10)) + (Int32.toInt64 ((σ29 0).1 1 0 (jaIx x10)))) - (Int64.ofNat 48)) x8 (x10 + (nI 1)) σ29))))))))))) :
  jc_Rd_readToken_4 D kk x2 x3 x4 x5 x6 x8 x10 σ :=
  jaRun_go (jaCall_self jaAr jaMt D) [4] 37 _ _ _ _ h
abbrev jm_Rd_isLetter : jaM := (jf_Rd_isLetter, jp_Rd_isLetter, 1)
theorem js_Rd_isLetter {D : Nat} {kk : Int32 → jaT → Prop} {σ : jaT} {x0 : Int32} (h :
  (x0 < (nI 97) → ((nI 0) = 0 ∨ (nI 0) = 1) ∧ kk (nI 0) σ) ∧
  (¬ x0 < (nI 97) → 
    ((nI 122) < x0 → ((nI 0) = 0 ∨ (nI 0) = 1) ∧ kk (nI 0) σ) ∧
    (¬ (nI 122) < x0 → ((nI 1) = 0 ∨ (nI 1) = 1) ∧ kk (nI 1) σ))) :
  jaDe (D + 1) jy_Rd_isLetter [.inl x0] σ (jaKi kk) :=
  jaCall_intro (mt := jaMt) (y := jy_Rd_isLetter) (f := jf_Rd_isLetter) (ps := jp_Rd_isLetter) (nL := 1) rfl rfl (jaRun_go (jaCall_self jaAr jaMt D) [] 12 _ _ _ _ h)
abbrev jm_Rd_isDigit : jaM := (jf_Rd_isDigit, jp_Rd_isDigit, 1)
theorem js_Rd_isDigit {D : Nat} {kk : Int32 → jaT → Prop} {σ : jaT} {x0 : Int32} (h :
  (x0 < (nI 48) → ((nI 0) = 0 ∨ (nI 0) = 1) ∧ kk (nI 0) σ) ∧
  (¬ x0 < (nI 48) → 
    ((nI 57) < x0 → ((nI 0) = 0 ∨ (nI 0) = 1) ∧ kk (nI 0) σ) ∧
    (¬ (nI 57) < x0 → ((nI 1) = 0 ∨ (nI 1) = 1) ∧ kk (nI 1) σ))) :
  jaDe (D + 1) jy_Rd_isDigit [.inl x0] σ (jaKi kk) :=
  jaCall_intro (mt := jaMt) (y := jy_Rd_isDigit) (f := jf_Rd_isDigit) (ps := jp_Rd_isDigit) (nL := 1) rfl rfl (jaRun_go (jaCall_self jaAr jaMt D) [] 12 _ _ _ _ h)
abbrev jm_Rd_kindOfWord : jaM := (jf_Rd_kindOfWord, jp_Rd_kindOfWord, 7)
def jc_Rd_kindOfWord_1 (D : Nat) (kk : Int32 → jaT → Prop) (x0 : Int64) (x2 : Int32) (x3 : Int64) (x5 : Int32) (u6 : Option jaV) (σ : jaT) : Prop := jaC (jaDe D) jm_Rd_kindOfWord (jaKi kk) 1 [some (.inr (.inl x0)), none, some (.inl x2), some (.inr (.inl x3)), none, some (.inl x5), u6] [] σ
theorem js_Rd_kindOfWord {D : Nat} {kk : Int32 → jaT → Prop} {σ : jaT} {x0 : Int64} (h :
  jc_Rd_kindOfWord_1 D kk x0 (nI 100) (Int64.ofNat 0) (nI 0) none σ) :
  jaDe (D + 1) jy_Rd_kindOfWord [.inr (.inl x0)] σ (jaKi kk) :=
  jaCall_intro (mt := jaMt) (y := jy_Rd_kindOfWord) (f := jf_Rd_kindOfWord) (ps := jp_Rd_kindOfWord) (nL := 7) rfl rfl (jaRun_go (jaCall_self jaAr jaMt D) [1] 10 _ _ _ _ h)
theorem jb_Rd_kindOfWord_1 {D : Nat} {kk : Int32 → jaT → Prop} {σ : jaT} {x0 : Int64} {x2 : Int32} {x3 : Int64} {x5 : Int32} {u6 : Option jaV} (h :
  (jaDe D) jy_JS_lengthW [.inr (.inr (102, 24, 0))] σ (jaKi fun r2 σ1 =>
    (r2 ≤ x5 → kk (nI 3) σ1) ∧
    (¬ r2 ≤ x5 → 
      (jaDe D) jy_JS_charAtW [.inr (.inr (102, 24, 0)), .inl x5] σ1 (jaKi fun r4 σ3 =>
        (r4 = (nI 32) → 
          (¬ (lg_cmp x3 x0) = 0 → 
            jc_Rd_kindOfWord_1 D kk x0 (x2 + (nI 1)) (Int64.ofNat 0) (x5 + (nI 1)) (some (.inl r4)) σ3) ∧
          ((lg_cmp x3 x0) = 0 → kk x2 σ3)) ∧
        (¬ r4 = (nI 32) → 
          jc_Rd_kindOfWord_1 D kk x0 x2 ((x3 * (Int64.ofNat 256)) + (Int32.toInt64 r4)) (x5 + (nI 1)) (some (.inl r4)) σ3))))) :
  jc_Rd_kindOfWord_1 D kk x0 x2 x3 x5 u6 σ :=
  jaRun_go (jaCall_self jaAr jaMt D) [1] 24 _ _ _ _ h
abbrev jm_Rd_kind : jaM := (jf_Rd_kind, jp_Rd_kind, 1)
theorem js_Rd_kind {D : Nat} {kk : Int32 → jaT → Prop} {σ : jaT}  (h :
  (((σ 0).1 2 0 3) ≤ ((σ 0).1 2 0 4) → kk (nI 0) σ) ∧
  (¬ ((σ 0).1 2 0 3) ≤ ((σ 0).1 2 0 4) → 
    vp_in ((σ 0).1 2 0 4) 941 ∧ kk ((σ 0).1 3 0 (jaIx ((σ 0).1 2 0 4))) σ)) :
  jaDe (D + 1) jy_Rd_kind [.inr (.inr (2, 0, 0))] σ (jaKi kk) :=
  jaCall_intro (mt := jaMt) (y := jy_Rd_kind) (f := jf_Rd_kind) (ps := jp_Rd_kind) (nL := 1) rfl rfl (jaRun_go (jaCall_self jaAr jaMt D) [] 15 _ _ _ _ h)
abbrev jm_Rd_content : jaM := (jf_Rd_content, jp_Rd_content, 1)
theorem js_Rd_content {D : Nat} {kk : Int64 → jaT → Prop} {σ : jaT}  (h :
  (((σ 0).1 2 0 3) ≤ ((σ 0).1 2 0 4) → kk (Int64.ofNat 0) σ) ∧
  (¬ ((σ 0).1 2 0 3) ≤ ((σ 0).1 2 0 4) → 
    vp_in ((σ 0).1 2 0 4) 941 ∧ kk ((σ 0).2 5 0 (jaIx ((σ 0).1 2 0 4))) σ)) :
  jaDe (D + 1) jy_Rd_content [.inr (.inr (2, 0, 0))] σ (jaKl kk) :=
  jaCall_intro (mt := jaMt) (y := jy_Rd_content) (f := jf_Rd_content) (ps := jp_Rd_content) (nL := 1) rfl rfl (jaRun_go (jaCall_self jaAr jaMt D) [] 15 _ _ _ _ h)
abbrev jm_Rd_step : jaM := (jf_Rd_step, jp_Rd_step, 1)
theorem js_Rd_step {D : Nat} {kk : jaT → Prop} {σ : jaT}  (h :
  (((σ 0).1 2 0 3) ≤ (((σ 0).1 2 0 4) + (nI 1)) → kk σ) ∧
  (¬ ((σ 0).1 2 0 3) ≤ (((σ 0).1 2 0 4) + (nI 1)) → 
    let σ1 : jaT := jaU σ 0 (jaUI (σ 0) 2 0 4 (((σ 0).1 2 0 4) + (nI 1)))
    kk σ1)) :
  jaDe (D + 1) jy_Rd_step [.inr (.inr (2, 0, 0))] σ (jaKv kk) :=
  jaCall_intro (mt := jaMt) (y := jy_Rd_step) (f := jf_Rd_step) (ps := jp_Rd_step) (nL := 1) rfl rfl (jaRun_go (jaCall_self jaAr jaMt D) [] 18 _ _ _ _ h)
abbrev jm_Rd_fail : jaM := (jf_Rd_fail, jp_Rd_fail, 2)
theorem js_Rd_fail {D : Nat} {kk : Int32 → jaT → Prop} {σ : jaT} {x1 : Int32} (h :
  let σ1 : jaT := jaU σ 0 (jaUI (σ 0) 2 0 5 x1)
  (((σ1 0).1 2 0 3) ≤ ((σ1 0).1 2 0 4) → 
    let σ2 : jaT := jaU σ1 0 (jaUI (σ1 0) 2 0 6 (nI 0))
    ((nI 0) = 0 ∨ (nI 0) = 1) ∧ kk (nI 0) σ2) ∧
  (¬ ((σ1 0).1 2 0 3) ≤ ((σ1 0).1 2 0 4) → 
    vp_in ((σ1 0).1 2 0 4) 941 ∧ (let σ3 : jaT := jaU σ1 0 (jaUI (σ1 0) 2 0 6 ((σ1 0).1 4 0 (jaIx ((σ1 0).1 2 0 4))))
    ((nI 0) = 0 ∨ (nI 0) = 1) ∧ kk (nI 0) σ3))) :
  jaDe (D + 1) jy_Rd_fail [.inr (.inr (2, 0, 0)), .inl x1] σ (jaKi kk) :=
  jaCall_intro (mt := jaMt) (y := jy_Rd_fail) (f := jf_Rd_fail) (ps := jp_Rd_fail) (nL := 2) rfl rfl (jaRun_go (jaCall_self jaAr jaMt D) [] 21 _ _ _ _ h)
abbrev jm_Rd_take : jaM := (jf_Rd_take, jp_Rd_take, 2)
theorem js_Rd_take {D : Nat} {kk : Int32 → jaT → Prop} {σ : jaT} {x1 : Int32} (h :
  (jaDe D) jy_Rd_kind [.inr (.inr (2, 0, 0))] σ (jaKi fun r2 σ1 =>
    (r2 = x1 → 
      (jaDe D) jy_Rd_step [.inr (.inr (2, 0, 0))] σ1 (jaKv fun σ3 =>
        ((nI 1) = 0 ∨ (nI 1) = 1) ∧ kk (nI 1) σ3)) ∧
    (¬ r2 = x1 → 
      (jaDe D) jy_Rd_fail [.inr (.inr (2, 0, 0)), .inl (nI 1)] σ1 (jaKi fun r5 σ4 =>
        (r5 = 0 ∨ r5 = 1) ∧ kk r5 σ4)))) :
  jaDe (D + 1) jy_Rd_take [.inr (.inr (2, 0, 0)), .inl x1] σ (jaKi kk) :=
  jaCall_intro (mt := jaMt) (y := jy_Rd_take) (f := jf_Rd_take) (ps := jp_Rd_take) (nL := 2) rfl rfl (jaRun_go (jaCall_self jaAr jaMt D) [] 11 _ _ _ _ h)
abbrev jm_Rd_takeNumber : jaM := (jf_Rd_takeNumber, jp_Rd_takeNumber, 5)
theorem js_Rd_takeNumber {D : Nat} {kk : Int32 → jaT → Prop} {σ : jaT} {x1 : Int32} {x2 : Int32} (h :
  (jaDe D) jy_Rd_kind [.inr (.inr (2, 0, 0))] σ (jaKi fun r2 σ1 =>
    (r2 = (nI 2) → 
      (jaDe D) jy_Rd_content [.inr (.inr (2, 0, 0))] σ1 (jaKl fun r4 σ3 =>
        ((lg_cmp r4 (Int32.toInt64 x1)) < 0 → 
          (jaDe D) jy_Rd_fail [.inr (.inr (2, 0, 0)), .inl (nI 2)] σ3 (jaKi fun r6 σ5 =>
            kk (-1 : Int32) σ5)) ∧
        (¬ (lg_cmp r4 (Int32.toInt64 x1)) < 0 → 
          ((lg_cmp r4 (Int32.toInt64 x2)) ≤ 0 → 
            (jaDe D) jy_Rd_step [.inr (.inr (2, 0, 0))] σ3 (jaKv fun σ7 =>
              kk (Int64.toInt32 r4) σ7)) ∧
          (¬ (lg_cmp r4 (Int32.toInt64 x2)) ≤ 0 → 
            (jaDe D) jy_Rd_fail [.inr (.inr (2, 0, 0)), .inl (nI 2)] σ3 (jaKi fun r9 σ8 =>
              kk (-1 : Int32) σ8))))) ∧
    (¬ r2 = (nI 2) → 
      (jaDe D) jy_Rd_fail [.inr (.inr (2, 0, 0)), .inl (nI 1)] σ1 (jaKi fun r11 σ10 =>
        kk (-1 : Int32) σ10)))) :
  jaDe (D + 1) jy_Rd_takeNumber [.inr (.inr (2, 0, 0)), .inl x1, .inl x2] σ (jaKi kk) :=
  jaCall_intro (mt := jaMt) (y := jy_Rd_takeNumber) (f := jf_Rd_takeNumber) (ps := jp_Rd_takeNumber) (nL := 5) rfl rfl (jaRun_go (jaCall_self jaAr jaMt D) [] 27 _ _ _ _ h)
abbrev jm_Rd_takeCompare : jaM := (jf_Rd_takeCompare, jp_Rd_takeCompare, 2)
theorem js_Rd_takeCompare {D : Nat} {kk : Int32 → jaT → Prop} {σ : jaT}  (h :
  (jaDe D) jy_Rd_kind [.inr (.inr (2, 0, 0))] σ (jaKi fun r2 σ1 =>
    (r2 = (nI 60) → 
      (jaDe D) jy_Rd_step [.inr (.inr (2, 0, 0))] σ1 (jaKv fun σ3 =>
        kk r2 σ3)) ∧
    (¬ r2 = (nI 60) → 
      (r2 = (nI 61) → 
        (jaDe D) jy_Rd_step [.inr (.inr (2, 0, 0))] σ1 (jaKv fun σ4 =>
          kk r2 σ4)) ∧
      (¬ r2 = (nI 61) → 
        (r2 = (nI 62) → 
          (jaDe D) jy_Rd_step [.inr (.inr (2, 0, 0))] σ1 (jaKv fun σ5 =>
            kk r2 σ5)) ∧
        (¬ r2 = (nI 62) → 
          (jaDe D) jy_Rd_fail [.inr (.inr (2, 0, 0)), .inl (nI 1)] σ1 (jaKi fun r7 σ6 =>
            kk (-1 : Int32) σ6)))))) :
  jaDe (D + 1) jy_Rd_takeCompare [.inr (.inr (2, 0, 0))] σ (jaKi kk) :=
  jaCall_intro (mt := jaMt) (y := jy_Rd_takeCompare) (f := jf_Rd_takeCompare) (ps := jp_Rd_takeCompare) (nL := 2) rfl rfl (jaRun_go (jaCall_self jaAr jaMt D) [] 21 _ _ _ _ h)
abbrev jm_Sc_copyFrom : jaM := (jf_Sc_copyFrom, jp_Sc_copyFrom, 3)
def jc_Sc_copyFrom_1 (D : Nat) (kk : jaT → Prop) (k : Nat) (k1 : Nat) (x2 : Int32) (σ : jaT) : Prop := jaC (jaDe D) jm_Sc_copyFrom (jaKv kk) 1 [some (.inr (.inr (54, k, 0))), some (.inr (.inr (54, k1, 0))), some (.inl x2)] [] σ
theorem js_Sc_copyFrom {D : Nat} {kk : jaT → Prop} {σ : jaT} {k : Nat} {k1 : Nat} (h :
  let σ1 : jaT := jaU σ k (jaUI (σ k) 54 0 0 ((σ k1).1 54 0 0))
  jc_Sc_copyFrom_1 D kk k k1 (nI 0) σ1) :
  jaDe (D + 1) jy_Sc_copyFrom [.inr (.inr (54, k, 0)), .inr (.inr (54, k1, 0))] σ (jaKv kk) :=
  jaCall_intro (mt := jaMt) (y := jy_Sc_copyFrom) (f := jf_Sc_copyFrom) (ps := jp_Sc_copyFrom) (nL := 3) rfl rfl (jaRun_go (jaCall_self jaAr jaMt D) [1] 10 _ _ _ _ h)
theorem jb_Sc_copyFrom_1 {D : Nat} {kk : jaT → Prop} {σ : jaT} {k : Nat} {k1 : Nat} {x2 : Int32} (h :
  (((σ k).1 54 0 0) ≤ x2 → kk σ) ∧
  (¬ ((σ k).1 54 0 0) ≤ x2 → 
    (jaDe D) jy_Sc_copyOne [.inr (.inr (54, k, 0)), .inr (.inr (54, k1, 0)), .inl x2, .inl x2] σ (jaKv fun σ1 =>
      jc_Sc_copyFrom_1 D kk k k1 (x2 + (nI 1)) σ1))) :
  jc_Sc_copyFrom_1 D kk k k1 x2 σ :=
  jaRun_go (jaCall_self jaAr jaMt D) [1] 14 _ _ _ _ h
abbrev jm_Sc_copyOne : jaM := (jf_Sc_copyOne, jp_Sc_copyOne, 6)
def jc_Sc_copyOne_1 (D : Nat) (kk : jaT → Prop) (k : Nat) (k1 : Nat) (x2 : Int32) (x3 : Int32) (x4 : Int32) (σ : jaT) : Prop := jaC (jaDe D) jm_Sc_copyOne (jaKv kk) 1 [some (.inr (.inr (54, k, 0))), some (.inr (.inr (54, k1, 0))), some (.inl x2), some (.inl x3), some (.inl x4), none] [] σ
def jc_Sc_copyOne_3 (D : Nat) (kk : jaT → Prop) (k : Nat) (k1 : Nat) (x2 : Int32) (x3 : Int32) (x4 : Int32) (x5 : Int32) (σ : jaT) : Prop := jaC (jaDe D) jm_Sc_copyOne (jaKv kk) 3 [some (.inr (.inr (54, k, 0))), some (.inr (.inr (54, k1, 0))), some (.inl x2), some (.inl x3), some (.inl x4), some (.inl x5)] [] σ
theorem js_Sc_copyOne {D : Nat} {kk : jaT → Prop} {σ : jaT} {k : Nat} {k1 : Nat} {x2 : Int32} {x3 : Int32} (h :
  vp_in x2 24 ∧ (vp_in x3 24 ∧ 
  (let σ1 : jaT := jaU σ k (jaUI (σ k) 55 0 (jaIx x3) ((σ k1).1 55 0 (jaIx x2)))
  vp_in x2 24 ∧ (vp_in x3 24 ∧ 
  (let σ2 : jaT := jaU σ1 k (jaUI (σ1 k) 56 0 (jaIx x3) ((σ1 k1).1 56 0 (jaIx x2)))
  vp_in x2 24 ∧ (vp_in x3 24 ∧ 
  (let σ3 : jaT := jaU σ2 k (jaUI (σ2 k) 57 0 (jaIx x3) ((σ2 k1).1 57 0 (jaIx x2)))
  jc_Sc_copyOne_1 D kk k k1 x2 x3 (nI 0) σ3))))))) :
  jaDe (D + 1) jy_Sc_copyOne [.inr (.inr (54, k, 0)), .inr (.inr (54, k1, 0)), .inl x2, .inl x3] σ (jaKv kk) :=
  jaCall_intro (mt := jaMt) (y := jy_Sc_copyOne) (f := jf_Sc_copyOne) (ps := jp_Sc_copyOne) (nL := 6) rfl rfl (jaRun_go (jaCall_self jaAr jaMt D) [1, 3] 30 _ _ _ _ h)
theorem jb_Sc_copyOne_1 {D : Nat} {kk : jaT → Prop} {σ : jaT} {k : Nat} {k1 : Nat} {x2 : Int32} {x3 : Int32} {x4 : Int32} (h :
  ((nI 4) ≤ x4 → jc_Sc_copyOne_3 D kk k k1 x2 x3 (nI 42) (nI 0) σ) ∧
  (¬ (nI 4) ≤ x4 → 
    vp_in ((x2 * (nI 4)) + x4) 96 ∧ (vp_in ((x3 * (nI 4)) + x4) 96 ∧ 
    (let σ1 : jaT := jaU σ k (jaUI (σ k) 58 0 (jaIx ((x3 * (nI 4)) + x4)) ((σ k1).1 58 0 (jaIx ((x2 * (nI 4)) + x4))))
    jc_Sc_copyOne_1 D kk k k1 x2 x3 (x4 + (nI 1)) σ1)))) :
  jc_Sc_copyOne_1 D kk k k1 x2 x3 x4 σ :=
  jaRun_go (jaCall_self jaAr jaMt D) [1, 3] 24 _ _ _ _ h
theorem jb_Sc_copyOne_3 {D : Nat} {kk : jaT → Prop} {σ : jaT} {k : Nat} {k1 : Nat} {x2 : Int32} {x3 : Int32} {x4 : Int32} {x5 : Int32} (h :
  (x4 ≤ x5 → kk σ) ∧
  (¬ x4 ≤ x5 → 
    vp_in ((x2 * x4) + x5) 1008 ∧ (vp_in ((x3 * x4) + x5) 1008 ∧ 
    (let σ1 : jaT := jaU σ k (jaUI (σ k) 59 0 (jaIx ((x3 * x4) + x5)) ((σ k1).1 59 0 (jaIx ((x2 * x4) + x5))))
    jc_Sc_copyOne_3 D kk k k1 x2 x3 x4 (x5 + (nI 1)) σ1)))) :
  jc_Sc_copyOne_3 D kk k k1 x2 x3 x4 x5 σ :=
  jaRun_go (jaCall_self jaAr jaMt D) [1, 3] 24 _ _ _ _ h
abbrev jm_Sc_isFull : jaM := (jf_Sc_isFull, jp_Sc_isFull, 1)
theorem js_Sc_isFull {D : Nat} {kk : Int32 → jaT → Prop} {σ : jaT} {k : Nat} (h :
  (((σ k).1 54 0 0) < (nI 24) → ((nI 0) = 0 ∨ (nI 0) = 1) ∧ kk (nI 0) σ) ∧
  (¬ ((σ k).1 54 0 0) < (nI 24) → ((nI 1) = 0 ∨ (nI 1) = 1) ∧ kk (nI 1) σ)) :
  jaDe (D + 1) jy_Sc_isFull [.inr (.inr (54, k, 0))] σ (jaKi kk) :=
  jaCall_intro (mt := jaMt) (y := jy_Sc_isFull) (f := jf_Sc_isFull) (ps := jp_Sc_isFull) (nL := 1) rfl rfl (jaRun_go (jaCall_self jaAr jaMt D) [] 10 _ _ _ _ h)
abbrev jm_Sc_addLike : jaM := (jf_Sc_addLike, jp_Sc_addLike, 3)
theorem js_Sc_addLike {D : Nat} {kk : Int32 → jaT → Prop} {σ : jaT} {k : Nat} {x1 : Int32} {x2 : Int32} (h :
  (jaDe D) jy_Sc_isFull [.inr (.inr (54, k, 0))] σ (jaKi fun r2 σ1 =>
    (r2 = 0 → 
      (jaDe D) jy_Sc_copyOne [.inr (.inr (54, k, 0)), .inr (.inr (54, k, 0)), .inl x1, .inl ((σ1 k).1 54 0 0)] σ1 (jaKv fun σ3 =>
        vp_in ((σ3 k).1 54 0 0) 24 ∧ 
        (let σ4 : jaT := jaU σ3 k (jaUI (σ3 k) 55 0 (jaIx ((σ3 k).1 54 0 0)) x2)
        let σ5 : jaT := jaU σ4 k (jaUI (σ4 k) 54 0 0 (((σ4 k).1 54 0 0) + (nI 1)))
        kk ((σ4 k).1 54 0 0) σ5))) ∧
    (¬ r2 = 0 → kk (-1 : Int32) σ1))) :
  jaDe (D + 1) jy_Sc_addLike [.inr (.inr (54, k, 0)), .inl x1, .inl x2] σ (jaKi kk) :=
  jaCall_intro (mt := jaMt) (y := jy_Sc_addLike) (f := jf_Sc_addLike) (ps := jp_Sc_addLike) (nL := 3) rfl rfl (jaRun_go (jaCall_self jaAr jaMt D) [] 26 _ _ _ _ h)
abbrev jm_Sc_read : jaM := (jf_Sc_read, jp_Sc_read, 5)
def jc_Sc_read_2 (D : Nat) (kk : Int32 → jaT → Prop) (k : Nat) (k2 : Nat) (x3 : Int32) (x4 : Int32) (σ : jaT) : Prop := jaC (jaDe D) jm_Sc_read (jaKi kk) 2 [some (.inr (.inr (54, k, 0))), some (.inr (.inr (2, 0, 0))), some (.inr (.inr (30, k2, 0))), some (.inl x3), some (.inl x4)] [] σ
theorem js_Sc_read {D : Nat} {kk : Int32 → jaT → Prop} {σ : jaT} {k : Nat} {k2 : Nat} {x3 : Int32} (h :
  (jaDe D) jy_Sc_isFull [.inr (.inr (54, k, 0))] σ (jaKi fun r2 σ1 =>
    (r2 = 0 → 
      vp_in ((σ1 k).1 54 0 0) 24 ∧ 
      (let σ3 : jaT := jaU σ1 k (jaUI (σ1 k) 55 0 (jaIx ((σ1 k).1 54 0 0)) x3)
      vp_in ((σ3 k).1 54 0 0) 24 ∧ 
      (let σ4 : jaT := jaU σ3 k (jaUI (σ3 k) 56 0 (jaIx ((σ3 k).1 54 0 0)) (nI 0))
      vp_in ((σ4 k).1 54 0 0) 24 ∧ 
      (let σ5 : jaT := jaU σ4 k (jaUI (σ4 k) 57 0 (jaIx ((σ4 k).1 54 0 0)) (nI 0))
      jc_Sc_read_2 D kk k k2 x3 (nI 0) σ5)))) ∧
    (¬ r2 = 0 → 
      (jaDe D) jy_Rd_fail [.inr (.inr (2, 0, 0)), .inl (nI 4)] σ1 (jaKi fun r7 σ6 =>
        (r7 = 0 ∨ r7 = 1) ∧ kk r7 σ6)))) :
  jaDe (D + 1) jy_Sc_read [.inr (.inr (54, k, 0)), .inr (.inr (2, 0, 0)), .inr (.inr (30, k2, 0)), .inl x3] σ (jaKi kk) :=
  jaCall_intro (mt := jaMt) (y := jy_Sc_read) (f := jf_Sc_read) (ps := jp_Sc_read) (nL := 5) rfl rfl (jaRun_go (jaCall_self jaAr jaMt D) [2] 27 _ _ _ _ h)
theorem jb_Sc_read_2 {D : Nat} {kk : Int32 → jaT → Prop} {σ : jaT} {k : Nat} {k2 : Nat} {x3 : Int32} {x4 : Int32} (h :
  ((nI 6) < x4 → ((nI 0) = 0 ∨ (nI 0) = 1) ∧ kk (nI 0) σ) ∧
  (¬ (nI 6) < x4 → 
    (x4 ≤ 0 → 
      (jaDe D) jy_Sc_readStep [.inr (.inr (54, k, 0)), .inr (.inr (2, 0, 0)), .inr (.inr (30, k2, 0))] σ (jaKi fun r2 σ1 =>
        (¬ r2 = 0 → jc_Sc_read_2 D kk k k2 x3 (x4 + (nI 1)) σ1) ∧
        (r2 = 0 → ((nI 0) = 0 ∨ (nI 0) = 1) ∧ kk (nI 0) σ1))) ∧
    (¬ x4 ≤ 0 → 
      (jaDe D) jy_Rd_kind [.inr (.inr (2, 0, 0))] σ (jaKi fun r4 σ3 =>
        (¬ r4 = (nI 1) → 
          (jaDe D) jy_Sc_readStep [.inr (.inr (54, k, 0)), .inr (.inr (2, 0, 0)), .inr (.inr (30, k2, 0))] σ3 (jaKi fun r6 σ5 =>
            (¬ r6 = 0 → jc_Sc_read_2 D kk k k2 x3 (x4 + (nI 1)) σ5) ∧
            (r6 = 0 → ((nI 0) = 0 ∨ (nI 0) = 1) ∧ kk (nI 0) σ5))) ∧
        (r4 = (nI 1) → ((nI 1) = 0 ∨ (nI 1) = 1) ∧ kk (nI 1) σ3))))) :
  jc_Sc_read_2 D kk k k2 x3 x4 σ :=
  jaRun_go (jaCall_self jaAr jaMt D) [2] 19 _ _ _ _ h
abbrev jm_Sc_readStep : jaM := (jf_Sc_readStep, jp_Sc_readStep, 5)
set_option maxRecDepth 20000 in
theorem js_Sc_readStep {D : Nat} {kk : Int32 → jaT → Prop} {σ : jaT} {k : Nat} {k2 : Nat} (h :
  vp_in ((σ k).1 54 0 0) 24 ∧ ((((σ k).1 56 0 (jaIx ((σ k).1 54 0 0))) < (nI 6) → 
    vp_in ((σ k).1 54 0 0) 24 ∧ ((jaDe D) jy_Rd_kind [.inr (.inr (2, 0, 0))] σ (jaKi fun r2 σ1 =>
      (¬ r2 = (nI 107) → 
        (jaDe D) jy_Sc_readGives [.inr (.inr (54, k, 0)), .inr (.inr (2, 0, 0)), .inr (.inr (30, k2, 0)), .inl (((((σ k).1 54 0 0) * (nI 6)) + ((σ k).1 56 0 (jaIx ((σ k).1 54 0 0)))) * (nI 7))] σ1 (jaKi fun r4 σ3 =>
          (r4 = 0 → ((nI 0) = 0 ∨ (nI 0) = 1) ∧ kk (nI 0) σ3) ∧
          (¬ r4 = 0 → 
            (jaDe D) jy_Rd_take [.inr (.inr (2, 0, 0)), .inl (nI 59)] σ3 (jaKi fun r6 σ5 =>
              (¬ r6 = 0 → 
                vp_in ((σ5 k).1 54 0 0) 24 ∧ (vp_in ((σ5 k).1 54 0 0) 24 ∧ 
                (let σ7 : jaT := jaU σ5 k (jaUI (σ5 k) 56 0 (jaIx ((σ5 k).1 54 0 0)) (((σ5 k).1 56 0 (jaIx ((σ5 k).1 54 0 0))) + (nI 1)))
                ((nI 1) = 0 ∨ (nI 1) = 1) ∧ kk (nI 1) σ7))) ∧
              (r6 = 0 → ((nI 0) = 0 ∨ (nI 0) = 1) ∧ kk (nI 0) σ5))))) ∧
      (r2 = (nI 107) → 
        (jaDe D) jy_Sc_readNeed [.inr (.inr (54, k, 0)), .inr (.inr (2, 0, 0)), .inr (.inr (30, k2, 0)), .inl (((((σ k).1 54 0 0) * (nI 6)) + ((σ k).1 56 0 (jaIx ((σ k).1 54 0 0)))) * (nI 7))] σ1 (jaKi fun r9 σ8 =>
          (r9 = 0 → ((nI 0) = 0 ∨ (nI 0) = 1) ∧ kk (nI 0) σ8) ∧
          (¬ r9 = 0 → 
            (jaDe D) jy_Rd_take [.inr (.inr (2, 0, 0)), .inl (nI 59)] σ8 (jaKi fun r11 σ10 =>
              (¬ r11 = 0 → 
                vp_in ((σ10 k).1 54 0 0) 24 ∧ (vp_in ((σ10 k).1 54 0 0) 24 ∧ 
                (let σ12 : jaT := jaU σ10 k (jaUI (σ10 k) 56 0 (jaIx ((σ10 k).1 54 0 0)) (((σ10 k).1 56 0 (jaIx ((σ10 k).1 54 0 0))) + (nI 1)))
                ((nI 1) = 0 ∨ (nI 1) = 1) ∧ kk (nI 1) σ12))) ∧
              (r11 = 0 → ((nI 0) = 0 ∨ (nI 0) = 1) ∧ kk (nI 0) σ10)))))))) ∧
  (¬ ((σ k).1 56 0 (jaIx ((σ k).1 54 0 0))) < (nI 6) → 
    (jaDe D) jy_Sc_failOneMore [.inr (.inr (2, 0, 0)), .inr (.inr (30, k2, 0)), .inl (nI 107)] σ (jaKi fun r14 σ13 =>
      (r14 = 0 ∨ r14 = 1) ∧ kk r14 σ13)))) :
  jaDe (D + 1) jy_Sc_readStep [.inr (.inr (54, k, 0)), .inr (.inr (2, 0, 0)), .inr (.inr (30, k2, 0))] σ (jaKi kk) :=
  jaCall_intro (mt := jaMt) (y := jy_Sc_readStep) (f := jf_Sc_readStep) (ps := jp_Sc_readStep) (nL := 5) rfl rfl (jaRun_go (jaCall_self jaAr jaMt D) [] 51 _ _ _ _ h)
abbrev jm_Sc_readNeed : jaM := (jf_Sc_readNeed, jp_Sc_readNeed, 7)
set_option maxRecDepth 20000 in
theorem js_Sc_readNeed {D : Nat} {kk : Int32 → jaT → Prop} {σ : jaT} {k : Nat} {k2 : Nat} {x3 : Int32} (h :
  (jaDe D) jy_Rd_step [.inr (.inr (2, 0, 0))] σ (jaKv fun σ1 =>
    (jaDe D) jy_Sc_readRef [.inr (.inr (54, k, 0)), .inr (.inr (2, 0, 0)), .inr (.inr (30, k2, 0))] σ1 (jaKi fun r3 σ2 =>
      (0 ≤ r3 → 
        (jaDe D) jy_Rd_takeCompare [.inr (.inr (2, 0, 0))] σ2 (jaKi fun r5 σ4 =>
          (0 ≤ r5 → 
            (jaDe D) jy_Sc_readTerm [.inr (.inr (54, k, 0)), .inr (.inr (2, 0, 0)), .inr (.inr (30, k2, 0))] σ4 (jaKi fun r7 σ6 =>
              (0 ≤ r7 → 
                vp_in x3 1008 ∧ 
                (let σ8 : jaT := jaU σ6 k (jaUI (σ6 k) 59 0 (jaIx x3) r5)
                vp_in (x3 + (nI 1)) 1008 ∧ 
                (let σ9 : jaT := jaU σ8 k (jaUI (σ8 k) 59 0 (jaIx (x3 + (nI 1))) r3)
                vp_in (x3 + (nI 2)) 1008 ∧ 
                (let σ10 : jaT := jaU σ9 k (jaUI (σ9 k) 59 0 (jaIx (x3 + (nI 2))) (nI 1))
                vp_in (x3 + (nI 3)) 1008 ∧ 
                (let σ11 : jaT := jaU σ10 k (jaUI (σ10 k) 59 0 (jaIx (x3 + (nI 3))) r7)
                ((nI 1) = 0 ∨ (nI 1) = 1) ∧ kk (nI 1) σ11))))) ∧
              (¬ 0 ≤ r7 → ((nI 0) = 0 ∨ (nI 0) = 1) ∧ kk (nI 0) σ6))) ∧
          (¬ 0 ≤ r5 → 
            (0 ≤ (-1 : Int32) → 
              vp_in x3 1008 ∧ 
              (let σ12 : jaT := jaU σ4 k (jaUI (σ4 k) 59 0 (jaIx x3) r5)
              vp_in (x3 + (nI 1)) 1008 ∧ 
              (let σ13 : jaT := jaU σ12 k (jaUI (σ12 k) 59 0 (jaIx (x3 + (nI 1))) r3)
              vp_in (x3 + (nI 2)) 1008 ∧ 
              (let σ14 : jaT := jaU σ13 k (jaUI (σ13 k) 59 0 (jaIx (x3 + (nI 2))) (nI 1))
              vp_in (x3 + (nI 3)) 1008 ∧ 
              (let σ15 : jaT := jaU σ14 k (jaUI (σ14 k) 59 0 (jaIx (x3 + (nI 3))) (-1 : Int32))
              ((nI 1) = 0 ∨ (nI 1) = 1) ∧ kk (nI 1) σ15))))) ∧
            (¬ 0 ≤ (-1 : Int32) → ((nI 0) = 0 ∨ (nI 0) = 1) ∧ kk (nI 0) σ4)))) ∧
      (¬ 0 ≤ r3 → 
        (0 ≤ (-1 : Int32) → 
          (jaDe D) jy_Sc_readTerm [.inr (.inr (54, k, 0)), .inr (.inr (2, 0, 0)), .inr (.inr (30, k2, 0))] σ2 (jaKi fun r17 σ16 =>
            (0 ≤ r17 → 
              vp_in x3 1008 ∧ 
              (let σ18 : jaT := jaU σ16 k (jaUI (σ16 k) 59 0 (jaIx x3) (-1 : Int32))
              vp_in (x3 + (nI 1)) 1008 ∧ 
              (let σ19 : jaT := jaU σ18 k (jaUI (σ18 k) 59 0 (jaIx (x3 + (nI 1))) r3)
              vp_in (x3 + (nI 2)) 1008 ∧ 
              (let σ20 : jaT := jaU σ19 k (jaUI (σ19 k) 59 0 (jaIx (x3 + (nI 2))) (nI 1))
              vp_in (x3 + (nI 3)) 1008 ∧ 
              (let σ21 : jaT := jaU σ20 k (jaUI (σ20 k) 59 0 (jaIx (x3 + (nI 3))) r17)
              ((nI 1) = 0 ∨ (nI 1) = 1) ∧ kk (nI 1) σ21))))) ∧
            (¬ 0 ≤ r17 → ((nI 0) = 0 ∨ (nI 0) = 1) ∧ kk (nI 0) σ16))) ∧
        (¬ 0 ≤ (-1 : Int32) → 
          (0 ≤ (-1 : Int32) → 
            vp_in x3 1008 ∧ 
            (let σ22 : jaT := jaU σ2 k (jaUI (σ2 k) 59 0 (jaIx x3) (-1 : Int32))
            vp_in (x3 + (nI 1)) 1008 ∧ 
            (let σ23 : jaT := jaU σ22 k (jaUI (σ22 k) 59 0 (jaIx (x3 + (nI 1))) r3)
            vp_in (x3 + (nI 2)) 1008 ∧ 
            (let σ24 : jaT := jaU σ23 k (jaUI (σ23 k) 59 0 (jaIx (x3 + (nI 2))) (nI 1))
            vp_in (x3 + (nI 3)) 1008 ∧ 
            (let σ25 : jaT := jaU σ24 k (jaUI (σ24 k) 59 0 (jaIx (x3 + (nI 3))) (-1 : Int32))
            ((nI 1) = 0 ∨ (nI 1) = 1) ∧ kk (nI 1) σ25))))) ∧
          (¬ 0 ≤ (-1 : Int32) → ((nI 0) = 0 ∨ (nI 0) = 1) ∧ kk (nI 0) σ2)))))) :
  jaDe (D + 1) jy_Sc_readNeed [.inr (.inr (54, k, 0)), .inr (.inr (2, 0, 0)), .inr (.inr (30, k2, 0)), .inl x3] σ (jaKi kk) :=
  jaCall_intro (mt := jaMt) (y := jy_Sc_readNeed) (f := jf_Sc_readNeed) (ps := jp_Sc_readNeed) (nL := 7) rfl rfl (jaRun_go (jaCall_self jaAr jaMt D) [] 54 _ _ _ _ h)
abbrev jm_Sc_readGives : jaM := (jf_Sc_readGives, jp_Sc_readGives, 8)
def jc_Sc_readGives_3 (D : Nat) (kk : Int32 → jaT → Prop) (k : Nat) (k2 : Nat) (x3 : Int32) (x4 : Int32) (x5 : Int32) (x6 : Int32) (u7 : Option jaV) (σ : jaT) : Prop := jaC (jaDe D) jm_Sc_readGives (jaKi kk) 3 [some (.inr (.inr (54, k, 0))), some (.inr (.inr (2, 0, 0))), some (.inr (.inr (30, k2, 0))), some (.inl x3), some (.inl x4), some (.inl x5), some (.inl x6), u7] [] σ
theorem js_Sc_readGives {D : Nat} {kk : Int32 → jaT → Prop} {σ : jaT} {k : Nat} {k2 : Nat} {x3 : Int32} (h :
  (jaDe D) jy_Sc_readRef [.inr (.inr (54, k, 0)), .inr (.inr (2, 0, 0)), .inr (.inr (30, k2, 0))] σ (jaKi fun r2 σ1 =>
    (r2 < 0 → ((nI 0) = 0 ∨ (nI 0) = 1) ∧ kk (nI 0) σ1) ∧
    (¬ r2 < 0 → 
      (jaDe D) jy_Rd_take [.inr (.inr (2, 0, 0)), .inl (nI 61)] σ1 (jaKi fun r4 σ3 =>
        (¬ r4 = 0 → 
          vp_in x3 1008 ∧ 
          (let σ5 : jaT := jaU σ3 k (jaUI (σ3 k) 59 0 (jaIx x3) (nI 0))
          vp_in (x3 + (nI 1)) 1008 ∧ 
          (let σ6 : jaT := jaU σ5 k (jaUI (σ5 k) 59 0 (jaIx (x3 + (nI 1))) r2)
          jc_Sc_readGives_3 D kk k k2 x3 r2 (nI 0) (nI 0) none σ6))) ∧
        (r4 = 0 → ((nI 0) = 0 ∨ (nI 0) = 1) ∧ kk (nI 0) σ3))))) :
  jaDe (D + 1) jy_Sc_readGives [.inr (.inr (54, k, 0)), .inr (.inr (2, 0, 0)), .inr (.inr (30, k2, 0)), .inl x3] σ (jaKi kk) :=
  jaCall_intro (mt := jaMt) (y := jy_Sc_readGives) (f := jf_Sc_readGives) (ps := jp_Sc_readGives) (nL := 8) rfl rfl (jaRun_go (jaCall_self jaAr jaMt D) [3] 31 _ _ _ _ h)
set_option maxRecDepth 20000 in
theorem jb_Sc_readGives_3 {D : Nat} {kk : Int32 → jaT → Prop} {σ : jaT} {k : Nat} {k2 : Nat} {x3 : Int32} {x4 : Int32} {x5 : Int32} {x6 : Int32} {u7 : Option jaV} (h :
  ((nI 4) ≤ x6 → 
    (jaDe D) jy_Sc_failOneMore [.inr (.inr (2, 0, 0)), .inr (.inr (30, k2, 0)), .inl (nI 2)] σ (jaKi fun r2 σ1 =>
      (r2 = 0 ∨ r2 = 1) ∧ kk r2 σ1)) ∧
  (¬ (nI 4) ≤ x6 → 
    (jaDe D) jy_Sc_readTerm [.inr (.inr (54, k, 0)), .inr (.inr (2, 0, 0)), .inr (.inr (30, k2, 0))] σ (jaKi fun r4 σ3 =>
      (0 ≤ r4 → 
        (x5 = 0 → 
          vp_in ((x3 + (nI 3)) + x6) 1008 ∧ 
          (let σ5 : jaT := jaU σ3 k (jaUI (σ3 k) 59 0 (jaIx ((x3 + (nI 3)) + x6)) r4)
          vp_in (x3 + (nI 2)) 1008 ∧ 
          (let σ6 : jaT := jaU σ5 k (jaUI (σ5 k) 59 0 (jaIx (x3 + (nI 2))) (x6 + (nI 1)))
          (jaDe D) jy_Rd_kind [.inr (.inr (2, 0, 0))] σ6 (jaKi fun r8 σ7 =>
            (¬ r8 = (nI 45) → 
              (¬ (nI 0) = 0 → 
                (jaDe D) jy_Rd_step [.inr (.inr (2, 0, 0))] σ7 (jaKv fun σ9 =>
                  jc_Sc_readGives_3 D kk k k2 x3 x4 (nI 0) (x6 + (nI 1)) (some (.inl r4)) σ9)) ∧
              ((nI 0) = 0 → 
                (jaDe D) jy_Rd_kind [.inr (.inr (2, 0, 0))] σ7 (jaKi fun r11 σ10 =>
                  (r11 = (nI 43) → 
                    (jaDe D) jy_Rd_step [.inr (.inr (2, 0, 0))] σ10 (jaKv fun σ12 =>
                      jc_Sc_readGives_3 D kk k k2 x3 x4 (nI 0) (x6 + (nI 1)) (some (.inl r4)) σ12)) ∧
                  (¬ r11 = (nI 43) → ((nI 1) = 0 ∨ (nI 1) = 1) ∧ kk (nI 1) σ10)))) ∧
            (r8 = (nI 45) → 
              (¬ (nI 1) = 0 → 
                (jaDe D) jy_Rd_step [.inr (.inr (2, 0, 0))] σ7 (jaKv fun σ13 =>
                  jc_Sc_readGives_3 D kk k k2 x3 x4 (nI 1) (x6 + (nI 1)) (some (.inl r4)) σ13)) ∧
              ((nI 1) = 0 → 
                (jaDe D) jy_Rd_kind [.inr (.inr (2, 0, 0))] σ7 (jaKi fun r15 σ14 =>
                  (r15 = (nI 43) → 
                    (jaDe D) jy_Rd_step [.inr (.inr (2, 0, 0))] σ14 (jaKv fun σ16 =>
                      jc_Sc_readGives_3 D kk k k2 x3 x4 (nI 1) (x6 + (nI 1)) (some (.inl r4)) σ16)) ∧
                  (¬ r15 = (nI 43) → ((nI 1) = 0 ∨ (nI 1) = 1) ∧ kk (nI 1) σ14)))))))) ∧
        (¬ x5 = 0 → 
          vp_in ((x3 + (nI 3)) + x6) 1008 ∧ 
          (let σ17 : jaT := jaU σ3 k (jaUI (σ3 k) 59 0 (jaIx ((x3 + (nI 3)) + x6)) ((-1 : Int32) - r4))
          vp_in (x3 + (nI 2)) 1008 ∧ 
          (let σ18 : jaT := jaU σ17 k (jaUI (σ17 k) 59 0 (jaIx (x3 + (nI 2))) (x6 + (nI 1)))
          (jaDe D) jy_Rd_kind [.inr (.inr (2, 0, 0))] σ18 (jaKi fun r20 σ19 =>
            (¬ r20 = (nI 45) → 
              (¬ (nI 0) = 0 → 
                (jaDe D) jy_Rd_step [.inr (.inr (2, 0, 0))] σ19 (jaKv fun σ21 =>
                  jc_Sc_readGives_3 D kk k k2 x3 x4 (nI 0) (x6 + (nI 1)) (some (.inl r4)) σ21)) ∧
              ((nI 0) = 0 → 
                (jaDe D) jy_Rd_kind [.inr (.inr (2, 0, 0))] σ19 (jaKi fun r23 σ22 =>
                  (r23 = (nI 43) → 
                    (jaDe D) jy_Rd_step [.inr (.inr (2, 0, 0))] σ22 (jaKv fun σ24 =>
                      jc_Sc_readGives_3 D kk k k2 x3 x4 (nI 0) (x6 + (nI 1)) (some (.inl r4)) σ24)) ∧
                  (¬ r23 = (nI 43) → ((nI 1) = 0 ∨ (nI 1) = 1) ∧ kk (nI 1) σ22)))) ∧
            (r20 = (nI 45) → 
              (¬ (nI 1) = 0 → 
                (jaDe D) jy_Rd_step [.inr (.inr (2, 0, 0))] σ19 (jaKv fun σ25 =>
                  jc_Sc_readGives_3 D kk k k2 x3 x4 (nI 1) (x6 + (nI 1)) (some (.inl r4)) σ25)) ∧
              ((nI 1) = 0 → 
                (jaDe D) jy_Rd_kind [.inr (.inr (2, 0, 0))] σ19 (jaKi fun r27 σ26 =>
                  (r27 = (nI 43) → 
                    (jaDe D) jy_Rd_step [.inr (.inr (2, 0, 0))] σ26 (jaKv fun σ28 =>
                      jc_Sc_readGives_3 D kk k k2 x3 x4 (nI 1) (x6 + (nI 1)) (some (.inl r4)) σ28)) ∧
                  (¬ r27 = (nI 43) → ((nI 1) = 0 ∨ (nI 1) = 1) ∧ kk (nI 1) σ26))))))))) ∧
      (¬ 0 ≤ r4 → ((nI 0) = 0 ∨ (nI 0) = 1) ∧ kk (nI 0) σ3)))) :
  jc_Sc_readGives_3 D kk k k2 x3 x4 x5 x6 u7 σ :=
  jaRun_go (jaCall_self jaAr jaMt D) [3] 53 _ _ _ _ h
abbrev jm_Sc_readTerm : jaM := (jf_Sc_readTerm, jp_Sc_readTerm, 3)
theorem js_Sc_readTerm {D : Nat} {kk : Int32 → jaT → Prop} {σ : jaT} {k : Nat} {k2 : Nat} (h :
  (jaDe D) jy_Rd_kind [.inr (.inr (2, 0, 0))] σ (jaKi fun r2 σ1 =>
    (¬ r2 = (nI 2) → 
      (jaDe D) jy_Sc_readRef [.inr (.inr (54, k, 0)), .inr (.inr (2, 0, 0)), .inr (.inr (30, k2, 0))] σ1 (jaKi fun r4 σ3 =>
        kk r4 σ3)) ∧
    (r2 = (nI 2) → 
      (jaDe D) jy_Rd_takeNumber [.inr (.inr (2, 0, 0)), .inl (nI 0), .inl (nI 999)] σ1 (jaKi fun r6 σ5 =>
        kk r6 σ5)))) :
  jaDe (D + 1) jy_Sc_readTerm [.inr (.inr (54, k, 0)), .inr (.inr (2, 0, 0)), .inr (.inr (30, k2, 0))] σ (jaKi kk) :=
  jaCall_intro (mt := jaMt) (y := jy_Sc_readTerm) (f := jf_Sc_readTerm) (ps := jp_Sc_readTerm) (nL := 3) rfl rfl (jaRun_go (jaCall_self jaAr jaMt D) [] 13 _ _ _ _ h)
abbrev jm_Sc_readRef : jaM := (jf_Sc_readRef, jp_Sc_readRef, 5)
set_option maxRecDepth 20000 in
theorem js_Sc_readRef {D : Nat} {kk : Int32 → jaT → Prop} {σ : jaT} {k : Nat} {k2 : Nat} (h :
  (jaDe D) jy_Rd_kind [.inr (.inr (2, 0, 0))] σ (jaKi fun r2 σ1 =>
    (r2 = (nI 108) → 
      vp_in ((σ1 k).1 54 0 0) 24 ∧ ((((σ1 k).1 57 0 (jaIx ((σ1 k).1 54 0 0))) < (nI 4) → 
        (jaDe D) jy_Rd_step [.inr (.inr (2, 0, 0))] σ1 (jaKv fun σ3 =>
          (jaDe D) jy_Wo_takeNamed [.inr (.inr (30, k2, 0)), .inr (.inr (2, 0, 0)), .inl (nI 3), .inl ((σ3 k2).1 30 0 1)] σ3 (jaKi fun r5 σ4 =>
            (0 ≤ r5 → 
              vp_in ((((σ4 k).1 54 0 0) * (nI 4)) + ((σ1 k).1 57 0 (jaIx ((σ1 k).1 54 0 0)))) 96 ∧ 
              (let σ6 : jaT := jaU σ4 k (jaUI (σ4 k) 58 0 (jaIx ((((σ4 k).1 54 0 0) * (nI 4)) + ((σ1 k).1 57 0 (jaIx ((σ1 k).1 54 0 0))))) r5)
              vp_in ((σ6 k).1 54 0 0) 24 ∧ 
              (let σ7 : jaT := jaU σ6 k (jaUI (σ6 k) 57 0 (jaIx ((σ6 k).1 54 0 0)) (((σ1 k).1 57 0 (jaIx ((σ1 k).1 54 0 0))) + (nI 1)))
              kk ((nI 2000) + ((σ1 k).1 57 0 (jaIx ((σ1 k).1 54 0 0)))) σ7))) ∧
            (¬ 0 ≤ r5 → kk (-1 : Int32) σ4)))) ∧
      (¬ ((σ1 k).1 57 0 (jaIx ((σ1 k).1 54 0 0))) < (nI 4) → 
        (jaDe D) jy_Rd_fail [.inr (.inr (2, 0, 0)), .inl (nI 4)] σ1 (jaKi fun r9 σ8 =>
          kk (-1 : Int32) σ8)))) ∧
    (¬ r2 = (nI 108) → 
      (jaDe D) jy_Wo_takeNamed [.inr (.inr (30, k2, 0)), .inr (.inr (2, 0, 0)), .inl (nI 3), .inl ((σ1 k2).1 30 0 1)] σ1 (jaKi fun r11 σ10 =>
        (0 ≤ r11 → kk ((nI 1000) + r11) σ10) ∧
        (¬ 0 ≤ r11 → kk (-1 : Int32) σ10))))) :
  jaDe (D + 1) jy_Sc_readRef [.inr (.inr (54, k, 0)), .inr (.inr (2, 0, 0)), .inr (.inr (30, k2, 0))] σ (jaKi kk) :=
  jaCall_intro (mt := jaMt) (y := jy_Sc_readRef) (f := jf_Sc_readRef) (ps := jp_Sc_readRef) (nL := 5) rfl rfl (jaRun_go (jaCall_self jaAr jaMt D) [] 49 _ _ _ _ h)
abbrev jm_Sc_failOneMore : jaM := (jf_Sc_failOneMore, jp_Sc_failOneMore, 4)
theorem js_Sc_failOneMore {D : Nat} {kk : Int32 → jaT → Prop} {σ : jaT} {k1 : Nat} {x2 : Int32} (h :
  (jaDe D) jy_Rd_kind [.inr (.inr (2, 0, 0))] σ (jaKi fun r2 σ1 =>
    (r2 = x2 → 
      (jaDe D) jy_Rd_fail [.inr (.inr (2, 0, 0)), .inl (nI 4)] σ1 (jaKi fun r4 σ3 =>
        (r4 = 0 ∨ r4 = 1) ∧ kk r4 σ3)) ∧
    (¬ r2 = x2 → 
      (r2 = (nI 108) → 
        (jaDe D) jy_Rd_fail [.inr (.inr (2, 0, 0)), .inl (nI 4)] σ1 (jaKi fun r6 σ5 =>
          (r6 = 0 ∨ r6 = 1) ∧ kk r6 σ5)) ∧
      (¬ r2 = (nI 108) → 
        (jaDe D) jy_Wo_isKeyNext [.inr (.inr (30, k1, 0)), .inr (.inr (2, 0, 0))] σ1 (jaKi fun r8 σ7 =>
          (r8 = 0 → 
            (¬ r2 = (nI 3) → 
              (jaDe D) jy_Rd_fail [.inr (.inr (2, 0, 0)), .inl (nI 1)] σ7 (jaKi fun r10 σ9 =>
                (r10 = 0 ∨ r10 = 1) ∧ kk r10 σ9)) ∧
            (r2 = (nI 3) → 
              (jaDe D) jy_Rd_fail [.inr (.inr (2, 0, 0)), .inl (nI 3)] σ7 (jaKi fun r12 σ11 =>
                (r12 = 0 ∨ r12 = 1) ∧ kk r12 σ11))) ∧
          (¬ r8 = 0 → 
            (jaDe D) jy_Rd_fail [.inr (.inr (2, 0, 0)), .inl (nI 4)] σ7 (jaKi fun r14 σ13 =>
              (r14 = 0 ∨ r14 = 1) ∧ kk r14 σ13))))))) :
  jaDe (D + 1) jy_Sc_failOneMore [.inr (.inr (2, 0, 0)), .inr (.inr (30, k1, 0)), .inl x2] σ (jaKi kk) :=
  jaCall_intro (mt := jaMt) (y := jy_Sc_failOneMore) (f := jf_Sc_failOneMore) (ps := jp_Sc_failOneMore) (nL := 4) rfl rfl (jaRun_go (jaCall_self jaAr jaMt D) [] 24 _ _ _ _ h)
abbrev jm_Sc_keyOf : jaM := (jf_Sc_keyOf, jp_Sc_keyOf, 5)
theorem js_Sc_keyOf {D : Nat} {kk : Int32 → jaT → Prop} {σ : jaT} {x0 : Int32} {k1 : Nat} {x2 : Int32} (h :
  (0 ≤ x0 → 
    ((nI 1000) ≤ x0 → 
      ((nI 2000) ≤ x0 → 
        (((x2 + x0) - (nI 2000)) < 0 → kk (-1 : Int32) σ) ∧
        (¬ ((x2 + x0) - (nI 2000)) < 0 → 
          ((nI 256) ≤ ((x2 + x0) - (nI 2000)) → kk (-1 : Int32) σ) ∧
          (¬ (nI 256) ≤ ((x2 + x0) - (nI 2000)) → 
            vp_in ((x2 + x0) - (nI 2000)) 256 ∧ kk ((σ k1).1 67 0 (jaIx ((x2 + x0) - (nI 2000)))) σ))) ∧
      (¬ (nI 2000) ≤ x0 → kk (x0 - (nI 1000)) σ)) ∧
    (¬ (nI 1000) ≤ x0 → kk (-1 : Int32) σ)) ∧
  (¬ 0 ≤ x0 → 
    ((nI 1000) ≤ ((-1 : Int32) - x0) → 
      ((nI 2000) ≤ ((-1 : Int32) - x0) → 
        (((x2 + ((-1 : Int32) - x0)) - (nI 2000)) < 0 → kk (-1 : Int32) σ) ∧
        (¬ ((x2 + ((-1 : Int32) - x0)) - (nI 2000)) < 0 → 
          ((nI 256) ≤ ((x2 + ((-1 : Int32) - x0)) - (nI 2000)) → kk (-1 : Int32) σ) ∧
          (¬ (nI 256) ≤ ((x2 + ((-1 : Int32) - x0)) - (nI 2000)) → 
            vp_in ((x2 + ((-1 : Int32) - x0)) - (nI 2000)) 256 ∧ kk ((σ k1).1 67 0 (jaIx ((x2 + ((-1 : Int32) - x0)) - (nI 2000)))) σ))) ∧
      (¬ (nI 2000) ≤ ((-1 : Int32) - x0) → kk (((-1 : Int32) - x0) - (nI 1000)) σ)) ∧
    (¬ (nI 1000) ≤ ((-1 : Int32) - x0) → kk (-1 : Int32) σ))) :
  jaDe (D + 1) jy_Sc_keyOf [.inl x0, .inr (.inr (67, k1, 0)), .inl x2] σ (jaKi kk) :=
  jaCall_intro (mt := jaMt) (y := jy_Sc_keyOf) (f := jf_Sc_keyOf) (ps := jp_Sc_keyOf) (nL := 5) rfl rfl (jaRun_go (jaCall_self jaAr jaMt D) [] 33 _ _ _ _ h)
abbrev jm_Sc_writesOf : jaM := (jf_Sc_writesOf, jp_Sc_writesOf, 8)
def jc_Sc_writesOf_1 (D : Nat) (kk : Int32 → jaT → Prop) (k : Nat) (x1 : Int32) (k2 : Nat) (x3 : Int32) (x4 : Int32) (x5 : Int32) (u6 : Option jaV) (u7 : Option jaV) (σ : jaT) : Prop := jaC (jaDe D) jm_Sc_writesOf (jaKi kk) 1 [some (.inr (.inr (54, k, 0))), some (.inl x1), some (.inr (.inr (67, k2, 0))), some (.inl x3), some (.inl x4), some (.inl x5), u6, u7] [] σ
theorem js_Sc_writesOf {D : Nat} {kk : Int32 → jaT → Prop} {σ : jaT} {k : Nat} {x1 : Int32} {k2 : Nat} {x3 : Int32} (h :
  jc_Sc_writesOf_1 D kk k x1 k2 x3 (nI 0) (nI 0) none none σ) :
  jaDe (D + 1) jy_Sc_writesOf [.inr (.inr (54, k, 0)), .inl x1, .inr (.inr (67, k2, 0)), .inl x3] σ (jaKi kk) :=
  jaCall_intro (mt := jaMt) (y := jy_Sc_writesOf) (f := jf_Sc_writesOf) (ps := jp_Sc_writesOf) (nL := 8) rfl rfl (jaRun_go (jaCall_self jaAr jaMt D) [1] 8 _ _ _ _ h)
set_option maxRecDepth 20000 in
theorem jb_Sc_writesOf_1 {D : Nat} {kk : Int32 → jaT → Prop} {σ : jaT} {k : Nat} {x1 : Int32} {k2 : Nat} {x3 : Int32} {x4 : Int32} {x5 : Int32} {u6 : Option jaV} {u7 : Option jaV} (h :
  vp_in x1 24 ∧ ((((σ k).1 56 0 (jaIx x1)) ≤ x5 → kk x4 σ) ∧
  (¬ ((σ k).1 56 0 (jaIx x1)) ≤ x5 → 
    vp_in ((((x1 * (nI 6)) + x5) * (nI 7)) + (nI 1)) 1008 ∧ ((jaDe D) jy_Sc_keyOf [.inl ((σ k).1 59 0 (jaIx ((((x1 * (nI 6)) + x5) * (nI 7)) + (nI 1)))), .inr (.inr (67, k2, 0)), .inl x3] σ (jaKi fun r2 σ1 =>
      vp_in (((x1 * (nI 6)) + x5) * (nI 7)) 1008 ∧ ((¬ ((σ1 k).1 59 0 (jaIx (((x1 * (nI 6)) + x5) * (nI 7)))) = 0 → 
        jc_Sc_writesOf_1 D kk k x1 k2 x3 x4 (x5 + (nI 1)) (some (.inl (((x1 * (nI 6)) + x5) * (nI 7)))) (some (.inl r2)) σ1) ∧
      (((σ1 k).1 59 0 (jaIx (((x1 * (nI 6)) + x5) * (nI 7)))) = 0 → 
        (r2 < 0 → 
          jc_Sc_writesOf_1 D kk k x1 k2 x3 x4 (x5 + (nI 1)) (some (.inl (((x1 * (nI 6)) + x5) * (nI 7)))) (some (.inl r2)) σ1) ∧
        (¬ r2 < 0 → 
          jc_Sc_writesOf_1 D kk k x1 k2 x3 (x4 ||| ((nI 1) <<< (r2 &&& 31))) (x5 + (nI 1)) (some (.inl (((x1 * (nI 6)) + x5) * (nI 7)))) (some (.inl r2)) σ1)))))))) :
  jc_Sc_writesOf_1 D kk k x1 k2 x3 x4 x5 u6 u7 σ :=
  jaRun_go (jaCall_self jaAr jaMt D) [1] 43 _ _ _ _ h
abbrev jm_Sc_readsOf : jaM := (jf_Sc_readsOf, jp_Sc_readsOf, 9)
def jc_Sc_readsOf_1 (D : Nat) (kk : Int32 → jaT → Prop) (k : Nat) (x1 : Int32) (k2 : Nat) (x3 : Int32) (x4 : Int32) (x5 : Int32) (σ : jaT) : Prop := jaC (jaDe D) jm_Sc_readsOf (jaKi kk) 1 [some (.inr (.inr (54, k, 0))), some (.inl x1), some (.inr (.inr (67, k2, 0))), some (.inl x3), some (.inl x4), some (.inl x5), none, none, none] [] σ
def jc_Sc_readsOf_3 (D : Nat) (kk : Int32 → jaT → Prop) (k : Nat) (x1 : Int32) (k2 : Nat) (x3 : Int32) (x4 : Int32) (x5 : Int32) (u6 : Option jaV) (u7 : Option jaV) (u8 : Option jaV) (σ : jaT) : Prop := jaC (jaDe D) jm_Sc_readsOf (jaKi kk) 3 [some (.inr (.inr (54, k, 0))), some (.inl x1), some (.inr (.inr (67, k2, 0))), some (.inl x3), some (.inl x4), some (.inl x5), u6, u7, u8] [] σ
def jc_Sc_readsOf_5 (D : Nat) (kk : Int32 → jaT → Prop) (k : Nat) (x1 : Int32) (k2 : Nat) (x3 : Int32) (x4 : Int32) (x5 : Int32) (x6 : Int32) (x7 : Int32) (x8 : Int32) (σ : jaT) : Prop := jaC (jaDe D) jm_Sc_readsOf (jaKi kk) 5 [some (.inr (.inr (54, k, 0))), some (.inl x1), some (.inr (.inr (67, k2, 0))), some (.inl x3), some (.inl x4), some (.inl x5), some (.inl x6), some (.inl x7), some (.inl x8)] [] σ
theorem js_Sc_readsOf {D : Nat} {kk : Int32 → jaT → Prop} {σ : jaT} {k : Nat} {x1 : Int32} {k2 : Nat} {x3 : Int32} (h :
  jc_Sc_readsOf_1 D kk k x1 k2 x3 (nI 0) (nI 0) σ) :
  jaDe (D + 1) jy_Sc_readsOf [.inr (.inr (54, k, 0)), .inl x1, .inr (.inr (67, k2, 0)), .inl x3] σ (jaKi kk) :=
  jaCall_intro (mt := jaMt) (y := jy_Sc_readsOf) (f := jf_Sc_readsOf) (ps := jp_Sc_readsOf) (nL := 9) rfl rfl (jaRun_go (jaCall_self jaAr jaMt D) [1, 3, 5] 8 _ _ _ _ h)
theorem jb_Sc_readsOf_1 {D : Nat} {kk : Int32 → jaT → Prop} {σ : jaT} {k : Nat} {x1 : Int32} {k2 : Nat} {x3 : Int32} {x4 : Int32} {x5 : Int32} (h :
  vp_in x1 24 ∧ ((((σ k).1 57 0 (jaIx x1)) ≤ x5 → jc_Sc_readsOf_3 D kk k x1 k2 x3 x4 (nI 0) none none none σ) ∧
  (¬ ((σ k).1 57 0 (jaIx x1)) ≤ x5 → 
    vp_in ((x1 * (nI 4)) + x5) 96 ∧ jc_Sc_readsOf_1 D kk k x1 k2 x3 (x4 ||| ((nI 1) <<< (((σ k).1 58 0 (jaIx ((x1 * (nI 4)) + x5))) &&& 31))) (x5 + (nI 1)) σ))) :
  jc_Sc_readsOf_1 D kk k x1 k2 x3 x4 x5 σ :=
  jaRun_go (jaCall_self jaAr jaMt D) [1, 3, 5] 24 _ _ _ _ h
set_option maxRecDepth 20000 in
theorem jb_Sc_readsOf_3 {D : Nat} {kk : Int32 → jaT → Prop} {σ : jaT} {k : Nat} {x1 : Int32} {k2 : Nat} {x3 : Int32} {x4 : Int32} {x5 : Int32} {u6 : Option jaV} {u7 : Option jaV} {u8 : Option jaV} (h :
  vp_in x1 24 ∧ ((((σ k).1 56 0 (jaIx x1)) ≤ x5 → kk x4 σ) ∧
  (¬ ((σ k).1 56 0 (jaIx x1)) ≤ x5 → 
    vp_in ((((x1 * (nI 6)) + x5) * (nI 7)) + (nI 1)) 1008 ∧ ((jaDe D) jy_Sc_keyOf [.inl ((σ k).1 59 0 (jaIx ((((x1 * (nI 6)) + x5) * (nI 7)) + (nI 1)))), .inr (.inr (67, k2, 0)), .inl x3] σ (jaKi fun r2 σ1 =>
      vp_in (((x1 * (nI 6)) + x5) * (nI 7)) 1008 ∧ ((((σ1 k).1 59 0 (jaIx (((x1 * (nI 6)) + x5) * (nI 7)))) = 0 → 
        jc_Sc_readsOf_5 D kk k x1 k2 x3 x4 x5 (((x1 * (nI 6)) + x5) * (nI 7)) r2 (nI 0) σ1) ∧
      (¬ ((σ1 k).1 59 0 (jaIx (((x1 * (nI 6)) + x5) * (nI 7)))) = 0 → 
        (r2 < 0 → 
          jc_Sc_readsOf_5 D kk k x1 k2 x3 x4 x5 (((x1 * (nI 6)) + x5) * (nI 7)) r2 (nI 0) σ1) ∧
        (¬ r2 < 0 → 
          jc_Sc_readsOf_5 D kk k x1 k2 x3 (x4 ||| ((nI 1) <<< (r2 &&& 31))) x5 (((x1 * (nI 6)) + x5) * (nI 7)) r2 (nI 0) σ1)))))))) :
  jc_Sc_readsOf_3 D kk k x1 k2 x3 x4 x5 u6 u7 u8 σ :=
  jaRun_go (jaCall_self jaAr jaMt D) [1, 3, 5] 44 _ _ _ _ h
theorem jb_Sc_readsOf_5 {D : Nat} {kk : Int32 → jaT → Prop} {σ : jaT} {k : Nat} {x1 : Int32} {k2 : Nat} {x3 : Int32} {x4 : Int32} {x5 : Int32} {x6 : Int32} {x7 : Int32} {x8 : Int32} (h :
  vp_in (x6 + (nI 2)) 1008 ∧ ((((σ k).1 59 0 (jaIx (x6 + (nI 2)))) ≤ x8 → 
    jc_Sc_readsOf_3 D kk k x1 k2 x3 x4 (x5 + (nI 1)) (some (.inl x6)) (some (.inl x7)) (some (.inl x8)) σ) ∧
  (¬ ((σ k).1 59 0 (jaIx (x6 + (nI 2)))) ≤ x8 → 
    vp_in ((x6 + (nI 3)) + x8) 1008 ∧ ((jaDe D) jy_Sc_keyOf [.inl ((σ k).1 59 0 (jaIx ((x6 + (nI 3)) + x8))), .inr (.inr (67, k2, 0)), .inl x3] σ (jaKi fun r2 σ1 =>
      (r2 < 0 → 
        jc_Sc_readsOf_5 D kk k x1 k2 x3 x4 x5 x6 r2 (x8 + (nI 1)) σ1) ∧
      (¬ r2 < 0 → 
        jc_Sc_readsOf_5 D kk k x1 k2 x3 (x4 ||| ((nI 1) <<< (r2 &&& 31))) x5 x6 r2 (x8 + (nI 1)) σ1)))))) :
  jc_Sc_readsOf_5 D kk k x1 k2 x3 x4 x5 x6 x7 x8 σ :=
  jaRun_go (jaCall_self jaAr jaMt D) [1, 3, 5] 34 _ _ _ _ h
abbrev jm_Sc_keyAt : jaM := (jf_Sc_keyAt, jp_Sc_keyAt, 5)
theorem js_Sc_keyAt_51 {D : Nat} {kk : Int32 → jaT → Prop} {σ : jaT} {k : Nat} {x1 : Int32} {x2 : Int32} {k3 : Nat} {c3 : Nat} {x4 : Int32} (h :
  (x4 ≤ 0 → kk (nI 0) σ) ∧
  (¬ x4 ≤ 0 → 
    vp_in ((x1 * (nI 4)) + x2) 96 ∧ (vp_in ((σ k).1 58 0 (jaIx ((x1 * (nI 4)) + x2))) 10 ∧ (jaDe D) jy_JM_floorMod [.inl ((σ k3).1 51 c3 (jaIx ((σ k).1 58 0 (jaIx ((x1 * (nI 4)) + x2))))), .inl x4] σ (jaKi fun r2 σ1 =>
      kk r2 σ1)))) :
  jaDe (D + 1) jy_Sc_keyAt [.inr (.inr (54, k, 0)), .inl x1, .inl x2, .inr (.inr (51, k3, c3)), .inl x4] σ (jaKi kk) :=
  jaCall_intro (mt := jaMt) (y := jy_Sc_keyAt) (f := jf_Sc_keyAt) (ps := jp_Sc_keyAt) (nL := 5) rfl rfl (jaRun_go (jaCall_self jaAr jaMt D) [] 19 _ _ _ _ h)
theorem js_Sc_keyAt_43 {D : Nat} {kk : Int32 → jaT → Prop} {σ : jaT} {k : Nat} {x1 : Int32} {x2 : Int32} {k3 : Nat} {x4 : Int32} (h :
  (x4 ≤ 0 → kk (nI 0) σ) ∧
  (¬ x4 ≤ 0 → 
    vp_in ((x1 * (nI 4)) + x2) 96 ∧ (vp_in ((σ k).1 58 0 (jaIx ((x1 * (nI 4)) + x2))) 10 ∧ (jaDe D) jy_JM_floorMod [.inl ((σ k3).1 43 0 (jaIx ((σ k).1 58 0 (jaIx ((x1 * (nI 4)) + x2))))), .inl x4] σ (jaKi fun r2 σ1 =>
      kk r2 σ1)))) :
  jaDe (D + 1) jy_Sc_keyAt [.inr (.inr (54, k, 0)), .inl x1, .inl x2, .inr (.inr (43, k3, 0)), .inl x4] σ (jaKi kk) :=
  jaCall_intro (mt := jaMt) (y := jy_Sc_keyAt) (f := jf_Sc_keyAt) (ps := jp_Sc_keyAt) (nL := 5) rfl rfl (jaRun_go (jaCall_self jaAr jaMt D) [] 19 _ _ _ _ h)
theorem js_Sc_keyAt_18 {D : Nat} {kk : Int32 → jaT → Prop} {σ : jaT} {k : Nat} {x1 : Int32} {x2 : Int32} {x4 : Int32} (h :
  (x4 ≤ 0 → kk (nI 0) σ) ∧
  (¬ x4 ≤ 0 → 
    vp_in ((x1 * (nI 4)) + x2) 96 ∧ (vp_in ((σ k).1 58 0 (jaIx ((x1 * (nI 4)) + x2))) 10 ∧ (jaDe D) jy_JM_floorMod [.inl ((σ 0).1 18 0 (jaIx ((σ k).1 58 0 (jaIx ((x1 * (nI 4)) + x2))))), .inl x4] σ (jaKi fun r2 σ1 =>
      kk r2 σ1)))) :
  jaDe (D + 1) jy_Sc_keyAt [.inr (.inr (54, k, 0)), .inl x1, .inl x2, .inr (.inr (18, 0, 0)), .inl x4] σ (jaKi kk) :=
  jaCall_intro (mt := jaMt) (y := jy_Sc_keyAt) (f := jf_Sc_keyAt) (ps := jp_Sc_keyAt) (nL := 5) rfl rfl (jaRun_go (jaCall_self jaAr jaMt D) [] 19 _ _ _ _ h)
abbrev jm_Sc_run : jaM := (jf_Sc_run, jp_Sc_run, 8)
def jc_Sc_run_51_1 (D : Nat) (kk : Int32 → jaT → Prop) (k : Nat) (x1 : Int32) (k2 : Nat) (x3 : Int32) (k4 : Nat) (c4 : Nat) (k5 : Nat) (x6 : Int32) (x7 : Int32) (σ : jaT) : Prop := jaC (jaDe D) jm_Sc_run (jaKi kk) 1 [some (.inr (.inr (54, k, 0))), some (.inl x1), some (.inr (.inr (67, k2, 0))), some (.inl x3), some (.inr (.inr (51, k4, c4))), some (.inr (.inr (42, k5, 0))), some (.inl x6), some (.inl x7)] [] σ
def jc_Sc_run_51_4 (D : Nat) (kk : Int32 → jaT → Prop) (k : Nat) (x1 : Int32) (k2 : Nat) (x3 : Int32) (k4 : Nat) (c4 : Nat) (k5 : Nat) (x6 : Int32) (x7 : Int32) (σ : jaT) : Prop := jaC (jaDe D) jm_Sc_run (jaKi kk) 4 [some (.inr (.inr (54, k, 0))), some (.inl x1), some (.inr (.inr (67, k2, 0))), some (.inl x3), some (.inr (.inr (51, k4, c4))), some (.inr (.inr (42, k5, 0))), some (.inl x6), some (.inl x7)] [] σ
def jc_Sc_run_51_6 (D : Nat) (kk : Int32 → jaT → Prop) (k : Nat) (x1 : Int32) (k2 : Nat) (x3 : Int32) (k4 : Nat) (c4 : Nat) (k5 : Nat) (x6 : Int32) (x7 : Int32) (σ : jaT) : Prop := jaC (jaDe D) jm_Sc_run (jaKi kk) 6 [some (.inr (.inr (54, k, 0))), some (.inl x1), some (.inr (.inr (67, k2, 0))), some (.inl x3), some (.inr (.inr (51, k4, c4))), some (.inr (.inr (42, k5, 0))), some (.inl x6), some (.inl x7)] [] σ
theorem js_Sc_run_51 {D : Nat} {kk : Int32 → jaT → Prop} {σ : jaT} {k : Nat} {x1 : Int32} {k2 : Nat} {x3 : Int32} {k4 : Nat} {c4 : Nat} {k5 : Nat} {x6 : Int32} (h :
  jc_Sc_run_51_1 D kk k x1 k2 x3 k4 c4 k5 x6 (nI 0) σ) :
  jaDe (D + 1) jy_Sc_run [.inr (.inr (54, k, 0)), .inl x1, .inr (.inr (67, k2, 0)), .inl x3, .inr (.inr (51, k4, c4)), .inr (.inr (42, k5, 0)), .inl x6] σ (jaKi kk) :=
  jaCall_intro (mt := jaMt) (y := jy_Sc_run) (f := jf_Sc_run) (ps := jp_Sc_run) (nL := 8) rfl rfl (jaRun_go (jaCall_self jaAr jaMt D) [1, 4, 6] 6 _ _ _ _ h)
theorem jb_Sc_run_51_1 {D : Nat} {kk : Int32 → jaT → Prop} {σ : jaT} {k : Nat} {x1 : Int32} {k2 : Nat} {x3 : Int32} {k4 : Nat} {c4 : Nat} {k5 : Nat} {x6 : Int32} {x7 : Int32} (h :
  vp_in x1 24 ∧ ((((σ k).1 57 0 (jaIx x1)) ≤ x7 → jc_Sc_run_51_4 D kk k x1 k2 x3 k4 c4 k5 x6 (nI 0) σ) ∧
  (¬ ((σ k).1 57 0 (jaIx x1)) ≤ x7 → 
    (jaDe D) jy_Sc_keyAt [.inr (.inr (54, k, 0)), .inl x1, .inl x7, .inr (.inr (51, k4, c4)), .inl x6] σ (jaKi fun r2 σ1 =>
      vp_in (x3 + x7) 256 ∧ ((r2 = ((σ1 k2).1 67 0 (jaIx (x3 + x7))) → jc_Sc_run_51_1 D kk k x1 k2 x3 k4 c4 k5 x6 (x7 + (nI 1)) σ1) ∧
      (¬ r2 = ((σ1 k2).1 67 0 (jaIx (x3 + x7))) → kk (nI 3) σ1)))))) :
  jc_Sc_run_51_1 D kk k x1 k2 x3 k4 c4 k5 x6 x7 σ :=
  jaRun_go (jaCall_self jaAr jaMt D) [1, 4, 6] 23 _ _ _ _ h
theorem jb_Sc_run_51_4 {D : Nat} {kk : Int32 → jaT → Prop} {σ : jaT} {k : Nat} {x1 : Int32} {k2 : Nat} {x3 : Int32} {k4 : Nat} {c4 : Nat} {k5 : Nat} {x6 : Int32} {x7 : Int32} (h :
  (x6 ≤ x7 → jc_Sc_run_51_6 D kk k x1 k2 x3 k4 c4 k5 x6 (nI 0) σ) ∧
  (¬ x6 ≤ x7 → 
    vp_in x7 10 ∧ (vp_in x7 10 ∧ 
    (let σ1 : jaT := jaU σ k5 (jaUI (σ k5) 42 0 (jaIx x7) ((σ k4).1 51 c4 (jaIx x7)))
    jc_Sc_run_51_4 D kk k x1 k2 x3 k4 c4 k5 x6 (x7 + (nI 1)) σ1)))) :
  jc_Sc_run_51_4 D kk k x1 k2 x3 k4 c4 k5 x6 x7 σ :=
  jaRun_go (jaCall_self jaAr jaMt D) [1, 4, 6] 14 _ _ _ _ h
theorem jb_Sc_run_51_6 {D : Nat} {kk : Int32 → jaT → Prop} {σ : jaT} {k : Nat} {x1 : Int32} {k2 : Nat} {x3 : Int32} {k4 : Nat} {c4 : Nat} {k5 : Nat} {x6 : Int32} {x7 : Int32} (h :
  vp_in x1 24 ∧ ((((σ k).1 56 0 (jaIx x1)) ≤ x7 → kk (nI 2) σ) ∧
  (¬ ((σ k).1 56 0 (jaIx x1)) ≤ x7 → 
    (jaDe D) jy_Sc_runStep [.inr (.inr (54, k, 0)), .inl (((x1 * (nI 6)) + x7) * (nI 7)), .inr (.inr (67, k2, 0)), .inl x3, .inr (.inr (42, k5, 0))] σ (jaKi fun r2 σ1 =>
      (¬ r2 = 0 → jc_Sc_run_51_6 D kk k x1 k2 x3 k4 c4 k5 x6 (x7 + (nI 1)) σ1) ∧
      (r2 = 0 → kk (nI 4) σ1))))) :
  jc_Sc_run_51_6 D kk k x1 k2 x3 k4 c4 k5 x6 x7 σ :=
  jaRun_go (jaCall_self jaAr jaMt D) [1, 4, 6] 24 _ _ _ _ h
def jc_Sc_run_43_1 (D : Nat) (kk : Int32 → jaT → Prop) (k : Nat) (x1 : Int32) (k2 : Nat) (x3 : Int32) (k4 : Nat) (k5 : Nat) (x6 : Int32) (x7 : Int32) (σ : jaT) : Prop := jaC (jaDe D) jm_Sc_run (jaKi kk) 1 [some (.inr (.inr (54, k, 0))), some (.inl x1), some (.inr (.inr (67, k2, 0))), some (.inl x3), some (.inr (.inr (43, k4, 0))), some (.inr (.inr (42, k5, 0))), some (.inl x6), some (.inl x7)] [] σ
def jc_Sc_run_43_4 (D : Nat) (kk : Int32 → jaT → Prop) (k : Nat) (x1 : Int32) (k2 : Nat) (x3 : Int32) (k4 : Nat) (k5 : Nat) (x6 : Int32) (x7 : Int32) (σ : jaT) : Prop := jaC (jaDe D) jm_Sc_run (jaKi kk) 4 [some (.inr (.inr (54, k, 0))), some (.inl x1), some (.inr (.inr (67, k2, 0))), some (.inl x3), some (.inr (.inr (43, k4, 0))), some (.inr (.inr (42, k5, 0))), some (.inl x6), some (.inl x7)] [] σ
def jc_Sc_run_43_6 (D : Nat) (kk : Int32 → jaT → Prop) (k : Nat) (x1 : Int32) (k2 : Nat) (x3 : Int32) (k4 : Nat) (k5 : Nat) (x6 : Int32) (x7 : Int32) (σ : jaT) : Prop := jaC (jaDe D) jm_Sc_run (jaKi kk) 6 [some (.inr (.inr (54, k, 0))), some (.inl x1), some (.inr (.inr (67, k2, 0))), some (.inl x3), some (.inr (.inr (43, k4, 0))), some (.inr (.inr (42, k5, 0))), some (.inl x6), some (.inl x7)] [] σ
theorem js_Sc_run_43 {D : Nat} {kk : Int32 → jaT → Prop} {σ : jaT} {k : Nat} {x1 : Int32} {k2 : Nat} {x3 : Int32} {k4 : Nat} {k5 : Nat} {x6 : Int32} (h :
  jc_Sc_run_43_1 D kk k x1 k2 x3 k4 k5 x6 (nI 0) σ) :
  jaDe (D + 1) jy_Sc_run [.inr (.inr (54, k, 0)), .inl x1, .inr (.inr (67, k2, 0)), .inl x3, .inr (.inr (43, k4, 0)), .inr (.inr (42, k5, 0)), .inl x6] σ (jaKi kk) :=
  jaCall_intro (mt := jaMt) (y := jy_Sc_run) (f := jf_Sc_run) (ps := jp_Sc_run) (nL := 8) rfl rfl (jaRun_go (jaCall_self jaAr jaMt D) [1, 4, 6] 6 _ _ _ _ h)
theorem jb_Sc_run_43_1 {D : Nat} {kk : Int32 → jaT → Prop} {σ : jaT} {k : Nat} {x1 : Int32} {k2 : Nat} {x3 : Int32} {k4 : Nat} {k5 : Nat} {x6 : Int32} {x7 : Int32} (h :
  vp_in x1 24 ∧ ((((σ k).1 57 0 (jaIx x1)) ≤ x7 → jc_Sc_run_43_4 D kk k x1 k2 x3 k4 k5 x6 (nI 0) σ) ∧
  (¬ ((σ k).1 57 0 (jaIx x1)) ≤ x7 → 
    (jaDe D) jy_Sc_keyAt [.inr (.inr (54, k, 0)), .inl x1, .inl x7, .inr (.inr (43, k4, 0)), .inl x6] σ (jaKi fun r2 σ1 =>
      vp_in (x3 + x7) 256 ∧ ((r2 = ((σ1 k2).1 67 0 (jaIx (x3 + x7))) → jc_Sc_run_43_1 D kk k x1 k2 x3 k4 k5 x6 (x7 + (nI 1)) σ1) ∧
      (¬ r2 = ((σ1 k2).1 67 0 (jaIx (x3 + x7))) → kk (nI 3) σ1)))))) :
  jc_Sc_run_43_1 D kk k x1 k2 x3 k4 k5 x6 x7 σ :=
  jaRun_go (jaCall_self jaAr jaMt D) [1, 4, 6] 23 _ _ _ _ h
theorem jb_Sc_run_43_4 {D : Nat} {kk : Int32 → jaT → Prop} {σ : jaT} {k : Nat} {x1 : Int32} {k2 : Nat} {x3 : Int32} {k4 : Nat} {k5 : Nat} {x6 : Int32} {x7 : Int32} (h :
  (x6 ≤ x7 → jc_Sc_run_43_6 D kk k x1 k2 x3 k4 k5 x6 (nI 0) σ) ∧
  (¬ x6 ≤ x7 → 
    vp_in x7 10 ∧ (vp_in x7 10 ∧ 
    (let σ1 : jaT := jaU σ k5 (jaUI (σ k5) 42 0 (jaIx x7) ((σ k4).1 43 0 (jaIx x7)))
    jc_Sc_run_43_4 D kk k x1 k2 x3 k4 k5 x6 (x7 + (nI 1)) σ1)))) :
  jc_Sc_run_43_4 D kk k x1 k2 x3 k4 k5 x6 x7 σ :=
  jaRun_go (jaCall_self jaAr jaMt D) [1, 4, 6] 14 _ _ _ _ h
theorem jb_Sc_run_43_6 {D : Nat} {kk : Int32 → jaT → Prop} {σ : jaT} {k : Nat} {x1 : Int32} {k2 : Nat} {x3 : Int32} {k4 : Nat} {k5 : Nat} {x6 : Int32} {x7 : Int32} (h :
  vp_in x1 24 ∧ ((((σ k).1 56 0 (jaIx x1)) ≤ x7 → kk (nI 2) σ) ∧
  (¬ ((σ k).1 56 0 (jaIx x1)) ≤ x7 → 
    (jaDe D) jy_Sc_runStep [.inr (.inr (54, k, 0)), .inl (((x1 * (nI 6)) + x7) * (nI 7)), .inr (.inr (67, k2, 0)), .inl x3, .inr (.inr (42, k5, 0))] σ (jaKi fun r2 σ1 =>
      (¬ r2 = 0 → jc_Sc_run_43_6 D kk k x1 k2 x3 k4 k5 x6 (x7 + (nI 1)) σ1) ∧
      (r2 = 0 → kk (nI 4) σ1))))) :
  jc_Sc_run_43_6 D kk k x1 k2 x3 k4 k5 x6 x7 σ :=
  jaRun_go (jaCall_self jaAr jaMt D) [1, 4, 6] 24 _ _ _ _ h
def jc_Sc_run_18_1 (D : Nat) (kk : Int32 → jaT → Prop) (k : Nat) (x1 : Int32) (k2 : Nat) (x3 : Int32) (k5 : Nat) (x6 : Int32) (x7 : Int32) (σ : jaT) : Prop := jaC (jaDe D) jm_Sc_run (jaKi kk) 1 [some (.inr (.inr (54, k, 0))), some (.inl x1), some (.inr (.inr (67, k2, 0))), some (.inl x3), some (.inr (.inr (18, 0, 0))), some (.inr (.inr (42, k5, 0))), some (.inl x6), some (.inl x7)] [] σ
def jc_Sc_run_18_4 (D : Nat) (kk : Int32 → jaT → Prop) (k : Nat) (x1 : Int32) (k2 : Nat) (x3 : Int32) (k5 : Nat) (x6 : Int32) (x7 : Int32) (σ : jaT) : Prop := jaC (jaDe D) jm_Sc_run (jaKi kk) 4 [some (.inr (.inr (54, k, 0))), some (.inl x1), some (.inr (.inr (67, k2, 0))), some (.inl x3), some (.inr (.inr (18, 0, 0))), some (.inr (.inr (42, k5, 0))), some (.inl x6), some (.inl x7)] [] σ
def jc_Sc_run_18_6 (D : Nat) (kk : Int32 → jaT → Prop) (k : Nat) (x1 : Int32) (k2 : Nat) (x3 : Int32) (k5 : Nat) (x6 : Int32) (x7 : Int32) (σ : jaT) : Prop := jaC (jaDe D) jm_Sc_run (jaKi kk) 6 [some (.inr (.inr (54, k, 0))), some (.inl x1), some (.inr (.inr (67, k2, 0))), some (.inl x3), some (.inr (.inr (18, 0, 0))), some (.inr (.inr (42, k5, 0))), some (.inl x6), some (.inl x7)] [] σ
theorem js_Sc_run_18 {D : Nat} {kk : Int32 → jaT → Prop} {σ : jaT} {k : Nat} {x1 : Int32} {k2 : Nat} {x3 : Int32} {k5 : Nat} {x6 : Int32} (h :
  jc_Sc_run_18_1 D kk k x1 k2 x3 k5 x6 (nI 0) σ) :
  jaDe (D + 1) jy_Sc_run [.inr (.inr (54, k, 0)), .inl x1, .inr (.inr (67, k2, 0)), .inl x3, .inr (.inr (18, 0, 0)), .inr (.inr (42, k5, 0)), .inl x6] σ (jaKi kk) :=
  jaCall_intro (mt := jaMt) (y := jy_Sc_run) (f := jf_Sc_run) (ps := jp_Sc_run) (nL := 8) rfl rfl (jaRun_go (jaCall_self jaAr jaMt D) [1, 4, 6] 6 _ _ _ _ h)
theorem jb_Sc_run_18_1 {D : Nat} {kk : Int32 → jaT → Prop} {σ : jaT} {k : Nat} {x1 : Int32} {k2 : Nat} {x3 : Int32} {k5 : Nat} {x6 : Int32} {x7 : Int32} (h :
  vp_in x1 24 ∧ ((((σ k).1 57 0 (jaIx x1)) ≤ x7 → jc_Sc_run_18_4 D kk k x1 k2 x3 k5 x6 (nI 0) σ) ∧
  (¬ ((σ k).1 57 0 (jaIx x1)) ≤ x7 → 
    (jaDe D) jy_Sc_keyAt [.inr (.inr (54, k, 0)), .inl x1, .inl x7, .inr (.inr (18, 0, 0)), .inl x6] σ (jaKi fun r2 σ1 =>
      vp_in (x3 + x7) 256 ∧ ((r2 = ((σ1 k2).1 67 0 (jaIx (x3 + x7))) → jc_Sc_run_18_1 D kk k x1 k2 x3 k5 x6 (x7 + (nI 1)) σ1) ∧
      (¬ r2 = ((σ1 k2).1 67 0 (jaIx (x3 + x7))) → kk (nI 3) σ1)))))) :
  jc_Sc_run_18_1 D kk k x1 k2 x3 k5 x6 x7 σ :=
  jaRun_go (jaCall_self jaAr jaMt D) [1, 4, 6] 23 _ _ _ _ h
theorem jb_Sc_run_18_4 {D : Nat} {kk : Int32 → jaT → Prop} {σ : jaT} {k : Nat} {x1 : Int32} {k2 : Nat} {x3 : Int32} {k5 : Nat} {x6 : Int32} {x7 : Int32} (h :
  (x6 ≤ x7 → jc_Sc_run_18_6 D kk k x1 k2 x3 k5 x6 (nI 0) σ) ∧
  (¬ x6 ≤ x7 → 
    vp_in x7 10 ∧ (vp_in x7 10 ∧ 
    (let σ1 : jaT := jaU σ k5 (jaUI (σ k5) 42 0 (jaIx x7) ((σ 0).1 18 0 (jaIx x7)))
    jc_Sc_run_18_4 D kk k x1 k2 x3 k5 x6 (x7 + (nI 1)) σ1)))) :
  jc_Sc_run_18_4 D kk k x1 k2 x3 k5 x6 x7 σ :=
  jaRun_go (jaCall_self jaAr jaMt D) [1, 4, 6] 14 _ _ _ _ h
theorem jb_Sc_run_18_6 {D : Nat} {kk : Int32 → jaT → Prop} {σ : jaT} {k : Nat} {x1 : Int32} {k2 : Nat} {x3 : Int32} {k5 : Nat} {x6 : Int32} {x7 : Int32} (h :
  vp_in x1 24 ∧ ((((σ k).1 56 0 (jaIx x1)) ≤ x7 → kk (nI 2) σ) ∧
  (¬ ((σ k).1 56 0 (jaIx x1)) ≤ x7 → 
    (jaDe D) jy_Sc_runStep [.inr (.inr (54, k, 0)), .inl (((x1 * (nI 6)) + x7) * (nI 7)), .inr (.inr (67, k2, 0)), .inl x3, .inr (.inr (42, k5, 0))] σ (jaKi fun r2 σ1 =>
      (¬ r2 = 0 → jc_Sc_run_18_6 D kk k x1 k2 x3 k5 x6 (x7 + (nI 1)) σ1) ∧
      (r2 = 0 → kk (nI 4) σ1))))) :
  jc_Sc_run_18_6 D kk k x1 k2 x3 k5 x6 x7 σ :=
  jaRun_go (jaCall_self jaAr jaMt D) [1, 4, 6] 24 _ _ _ _ h
abbrev jm_Sc_runStep : jaM := (jf_Sc_runStep, jp_Sc_runStep, 11)
def jc_Sc_runStep_1 (D : Nat) (kk : Int32 → jaT → Prop) (k : Nat) (x1 : Int32) (k2 : Nat) (x3 : Int32) (k4 : Nat) (x5 : Int32) (x6 : Int32) (u7 : Option jaV) (u8 : Option jaV) (u9 : Option jaV) (u10 : Option jaV) (σ : jaT) : Prop := jaC (jaDe D) jm_Sc_runStep (jaKi kk) 1 [some (.inr (.inr (54, k, 0))), some (.inl x1), some (.inr (.inr (67, k2, 0))), some (.inl x3), some (.inr (.inr (42, k4, 0))), some (.inl x5), some (.inl x6), u7, u8, u9, u10] [] σ
def jc_Sc_runStep_3 (D : Nat) (kk : Int32 → jaT → Prop) (k : Nat) (x1 : Int32) (k2 : Nat) (x3 : Int32) (k4 : Nat) (x5 : Int32) (x6 : Int32) (x7 : Int32) (u8 : Option jaV) (u9 : Option jaV) (u10 : Option jaV) (xs0 : Int32) (σ : jaT) : Prop := jaC (jaDe D) jm_Sc_runStep (jaKi kk) 3 [some (.inr (.inr (54, k, 0))), some (.inl x1), some (.inr (.inr (67, k2, 0))), some (.inl x3), some (.inr (.inr (42, k4, 0))), some (.inl x5), some (.inl x6), some (.inl x7), u8, u9, u10] [.inl xs0] σ
def jc_Sc_runStep_4 (D : Nat) (kk : Int32 → jaT → Prop) (k : Nat) (x1 : Int32) (k2 : Nat) (x3 : Int32) (k4 : Nat) (x5 : Int32) (x6 : Int32) (x7 : Int32) (x8 : Int32) (x9 : Int32) (u10 : Option jaV) (σ : jaT) : Prop := jaC (jaDe D) jm_Sc_runStep (jaKi kk) 4 [some (.inr (.inr (54, k, 0))), some (.inl x1), some (.inr (.inr (67, k2, 0))), some (.inl x3), some (.inr (.inr (42, k4, 0))), some (.inl x5), some (.inl x6), some (.inl x7), some (.inl x8), some (.inl x9), u10] [] σ
def jc_Sc_runStep_5 (D : Nat) (kk : Int32 → jaT → Prop) (k : Nat) (x1 : Int32) (k2 : Nat) (x3 : Int32) (k4 : Nat) (x5 : Int32) (x6 : Int32) (x7 : Int32) (x8 : Int32) (x9 : Int32) (u10 : Option jaV) (xs0 : Int32) (σ : jaT) : Prop := jaC (jaDe D) jm_Sc_runStep (jaKi kk) 5 [some (.inr (.inr (54, k, 0))), some (.inl x1), some (.inr (.inr (67, k2, 0))), some (.inl x3), some (.inr (.inr (42, k4, 0))), some (.inl x5), some (.inl x6), some (.inl x7), some (.inl x8), some (.inl x9), u10] [.inl xs0] σ
def jc_Sc_runStep_7 (D : Nat) (kk : Int32 → jaT → Prop) (k : Nat) (x1 : Int32) (k2 : Nat) (x3 : Int32) (k4 : Nat) (x5 : Int32) (x6 : Int32) (x7 : Int32) (x8 : Int32) (x9 : Int32) (x10 : Int32) (xs0 : Int32) (xs1 : Int32) (σ : jaT) : Prop := jaC (jaDe D) jm_Sc_runStep (jaKi kk) 7 [some (.inr (.inr (54, k, 0))), some (.inl x1), some (.inr (.inr (67, k2, 0))), some (.inl x3), some (.inr (.inr (42, k4, 0))), some (.inl x5), some (.inl x6), some (.inl x7), some (.inl x8), some (.inl x9), some (.inl x10)] [.inl xs1, .inl xs0] σ
def jc_Sc_runStep_9 (D : Nat) (kk : Int32 → jaT → Prop) (k : Nat) (x1 : Int32) (k2 : Nat) (x3 : Int32) (k4 : Nat) (x5 : Int32) (x6 : Int32) (u7 : Option jaV) (u8 : Option jaV) (u9 : Option jaV) (u10 : Option jaV) (σ : jaT) : Prop := jaC (jaDe D) jm_Sc_runStep (jaKi kk) 9 [some (.inr (.inr (54, k, 0))), some (.inl x1), some (.inr (.inr (67, k2, 0))), some (.inl x3), some (.inr (.inr (42, k4, 0))), some (.inl x5), some (.inl x6), u7, u8, u9, u10] [] σ
def jc_Sc_runStep_13 (D : Nat) (kk : Int32 → jaT → Prop) (k : Nat) (x1 : Int32) (k2 : Nat) (x3 : Int32) (k4 : Nat) (x5 : Int32) (x6 : Int32) (u7 : Option jaV) (u8 : Option jaV) (u9 : Option jaV) (u10 : Option jaV) (xs0 : Int32) (σ : jaT) : Prop := jaC (jaDe D) jm_Sc_runStep (jaKi kk) 13 [some (.inr (.inr (54, k, 0))), some (.inl x1), some (.inr (.inr (67, k2, 0))), some (.inl x3), some (.inr (.inr (42, k4, 0))), some (.inl x5), some (.inl x6), u7, u8, u9, u10] [.inl xs0] σ
def jc_Sc_runStep_16 (D : Nat) (kk : Int32 → jaT → Prop) (k : Nat) (x1 : Int32) (k2 : Nat) (x3 : Int32) (k4 : Nat) (x5 : Int32) (x6 : Int32) (u7 : Option jaV) (u8 : Option jaV) (u9 : Option jaV) (u10 : Option jaV) (xs0 : Int32) (σ : jaT) : Prop := jaC (jaDe D) jm_Sc_runStep (jaKi kk) 16 [some (.inr (.inr (54, k, 0))), some (.inl x1), some (.inr (.inr (67, k2, 0))), some (.inl x3), some (.inr (.inr (42, k4, 0))), some (.inl x5), some (.inl x6), u7, u8, u9, u10] [.inl xs0] σ
def jc_Sc_runStep_19 (D : Nat) (kk : Int32 → jaT → Prop) (k : Nat) (x1 : Int32) (k2 : Nat) (x3 : Int32) (k4 : Nat) (x5 : Int32) (x6 : Int32) (u7 : Option jaV) (u8 : Option jaV) (u9 : Option jaV) (u10 : Option jaV) (xs0 : Int32) (σ : jaT) : Prop := jaC (jaDe D) jm_Sc_runStep (jaKi kk) 19 [some (.inr (.inr (54, k, 0))), some (.inl x1), some (.inr (.inr (67, k2, 0))), some (.inl x3), some (.inr (.inr (42, k4, 0))), some (.inl x5), some (.inl x6), u7, u8, u9, u10] [.inl xs0] σ
theorem js_Sc_runStep {D : Nat} {kk : Int32 → jaT → Prop} {σ : jaT} {k : Nat} {x1 : Int32} {k2 : Nat} {x3 : Int32} {k4 : Nat} (h :
  jc_Sc_runStep_1 D kk k x1 k2 x3 k4 (nI 0) (nI 0) none none none none σ) :
  jaDe (D + 1) jy_Sc_runStep [.inr (.inr (54, k, 0)), .inl x1, .inr (.inr (67, k2, 0)), .inl x3, .inr (.inr (42, k4, 0))] σ (jaKi kk) :=
  jaCall_intro (mt := jaMt) (y := jy_Sc_runStep) (f := jf_Sc_runStep) (ps := jp_Sc_runStep) (nL := 11) rfl rfl (jaRun_go (jaCall_self jaAr jaMt D) [1, 3, 4, 5, 7, 9, 13, 16, 19] 8 _ _ _ _ h)
theorem jb_Sc_runStep_1 {D : Nat} {kk : Int32 → jaT → Prop} {σ : jaT} {k : Nat} {x1 : Int32} {k2 : Nat} {x3 : Int32} {k4 : Nat} {x5 : Int32} {x6 : Int32} {u7 : Option jaV} {u8 : Option jaV} {u9 : Option jaV} {u10 : Option jaV} (h :
  vp_in (x1 + (nI 2)) 1008 ∧ ((((σ k).1 59 0 (jaIx (x1 + (nI 2)))) ≤ x6 → 
    vp_in (x1 + (nI 1)) 1008 ∧ ((jaDe D) jy_Sc_keyOf [.inl ((σ k).1 59 0 (jaIx (x1 + (nI 1)))), .inr (.inr (67, k2, 0)), .inl x3] σ (jaKi fun r2 σ1 =>
      (r2 < 0 → jc_Sc_runStep_9 D kk k x1 k2 x3 k4 x5 r2 u7 u8 u9 u10 σ1) ∧
      (¬ r2 < 0 → 
        (r2 < (nI 10) → 
          vp_in x1 1008 ∧ ((((σ1 k).1 59 0 (jaIx x1)).toInt < 60 ∨ 62 < ((σ1 k).1 59 0 (jaIx x1)).toInt → 
            vp_in r2 10 ∧ 
            (let σ3 : jaT := jaU σ1 k4 (jaUI (σ1 k4) 42 0 (jaIx r2) x5)
            ((nI 1) = 0 ∨ (nI 1) = 1) ∧ kk (nI 1) σ3)) ∧
          (((σ1 k).1 59 0 (jaIx x1)) = nI 60 → 
            vp_in r2 10 ∧ ((x5 ≤ ((σ1 k4).1 42 0 (jaIx r2)) → 
              jc_Sc_runStep_13 D kk k x1 k2 x3 k4 x5 r2 u7 u8 u9 u10 (nI 0) σ1) ∧
            (¬ x5 ≤ ((σ1 k4).1 42 0 (jaIx r2)) → 
              jc_Sc_runStep_13 D kk k x1 k2 x3 k4 x5 r2 u7 u8 u9 u10 (nI 1) σ1))) ∧
          (((σ1 k).1 59 0 (jaIx x1)) = nI 61 → 
            vp_in r2 10 ∧ ((¬ ((σ1 k4).1 42 0 (jaIx r2)) = x5 → 
              jc_Sc_runStep_16 D kk k x1 k2 x3 k4 x5 r2 u7 u8 u9 u10 (nI 0) σ1) ∧
            (((σ1 k4).1 42 0 (jaIx r2)) = x5 → 
              jc_Sc_runStep_16 D kk k x1 k2 x3 k4 x5 r2 u7 u8 u9 u10 (nI 1) σ1))) ∧
          (((σ1 k).1 59 0 (jaIx x1)) = nI 62 → 
            vp_in r2 10 ∧ ((((σ1 k4).1 42 0 (jaIx r2)) ≤ x5 → 
              jc_Sc_runStep_19 D kk k x1 k2 x3 k4 x5 r2 u7 u8 u9 u10 (nI 0) σ1) ∧
            (¬ ((σ1 k4).1 42 0 (jaIx r2)) ≤ x5 → 
              jc_Sc_runStep_19 D kk k x1 k2 x3 k4 x5 r2 u7 u8 u9 u10 (nI 1) σ1))) ∧ True)) ∧
        (¬ r2 < (nI 10) → jc_Sc_runStep_9 D kk k x1 k2 x3 k4 x5 r2 u7 u8 u9 u10 σ1))))) ∧
  (¬ ((σ k).1 59 0 (jaIx (x1 + (nI 2)))) ≤ x6 → 
    vp_in ((x1 + (nI 3)) + x6) 1008 ∧ ((0 ≤ ((σ k).1 59 0 (jaIx ((x1 + (nI 3)) + x6))) → 
      jc_Sc_runStep_3 D kk k x1 k2 x3 k4 x5 x6 ((σ k).1 59 0 (jaIx ((x1 + (nI 3)) + x6))) u8 u9 u10 ((σ k).1 59 0 (jaIx ((x1 + (nI 3)) + x6))) σ) ∧
    (¬ 0 ≤ ((σ k).1 59 0 (jaIx ((x1 + (nI 3)) + x6))) → 
      jc_Sc_runStep_3 D kk k x1 k2 x3 k4 x5 x6 ((σ k).1 59 0 (jaIx ((x1 + (nI 3)) + x6))) u8 u9 u10 ((-1 : Int32) - ((σ k).1 59 0 (jaIx ((x1 + (nI 3)) + x6)))) σ))))) :
  jc_Sc_runStep_1 D kk k x1 k2 x3 k4 x5 x6 u7 u8 u9 u10 σ :=
  jaRun_go (jaCall_self jaAr jaMt D) [1, 3, 4, 5, 7, 9, 13, 16, 19] 39 _ _ _ _ h
theorem jb_Sc_runStep_3 {D : Nat} {kk : Int32 → jaT → Prop} {σ : jaT} {k : Nat} {x1 : Int32} {k2 : Nat} {x3 : Int32} {k4 : Nat} {x5 : Int32} {x6 : Int32} {x7 : Int32} {u8 : Option jaV} {u9 : Option jaV} {u10 : Option jaV} {xs0 : Int32} (h :
  (jaDe D) jy_Sc_keyOf [.inl xs0, .inr (.inr (67, k2, 0)), .inl x3] σ (jaKi fun r2 σ1 =>
    (r2 < 0 → jc_Sc_runStep_4 D kk k x1 k2 x3 k4 x5 x6 x7 xs0 r2 u10 σ1) ∧
    (¬ r2 < 0 → 
      ((nI 10) ≤ r2 → jc_Sc_runStep_4 D kk k x1 k2 x3 k4 x5 x6 x7 xs0 r2 u10 σ1) ∧
      (¬ (nI 10) ≤ r2 → 
        vp_in r2 10 ∧ jc_Sc_runStep_5 D kk k x1 k2 x3 k4 x5 x6 x7 xs0 r2 u10 ((σ1 k4).1 42 0 (jaIx r2)) σ1)))) :
  jc_Sc_runStep_3 D kk k x1 k2 x3 k4 x5 x6 x7 u8 u9 u10 xs0 σ :=
  jaRun_go (jaCall_self jaAr jaMt D) [1, 3, 4, 5, 7, 9, 13, 16, 19] 19 _ _ _ _ h
theorem jb_Sc_runStep_4 {D : Nat} {kk : Int32 → jaT → Prop} {σ : jaT} {k : Nat} {x1 : Int32} {k2 : Nat} {x3 : Int32} {k4 : Nat} {x5 : Int32} {x6 : Int32} {x7 : Int32} {x8 : Int32} {x9 : Int32} {u10 : Option jaV} (h :
  jc_Sc_runStep_5 D kk k x1 k2 x3 k4 x5 x6 x7 x8 x9 u10 x8 σ) :
  jc_Sc_runStep_4 D kk k x1 k2 x3 k4 x5 x6 x7 x8 x9 u10 σ :=
  jaRun_go (jaCall_self jaAr jaMt D) [1, 3, 4, 5, 7, 9, 13, 16, 19] 5 _ _ _ _ h
theorem jb_Sc_runStep_5 {D : Nat} {kk : Int32 → jaT → Prop} {σ : jaT} {k : Nat} {x1 : Int32} {k2 : Nat} {x3 : Int32} {k4 : Nat} {x5 : Int32} {x6 : Int32} {x7 : Int32} {x8 : Int32} {x9 : Int32} {u10 : Option jaV} {xs0 : Int32} (h :
  (0 ≤ x7 → 
    jc_Sc_runStep_7 D kk k x1 k2 x3 k4 x5 x6 x7 x8 x9 xs0 x5 xs0 σ) ∧
  (¬ 0 ≤ x7 → 
    jc_Sc_runStep_7 D kk k x1 k2 x3 k4 x5 x6 x7 x8 x9 xs0 x5 (-xs0) σ)) :
  jc_Sc_runStep_5 D kk k x1 k2 x3 k4 x5 x6 x7 x8 x9 u10 xs0 σ :=
  jaRun_go (jaCall_self jaAr jaMt D) [1, 3, 4, 5, 7, 9, 13, 16, 19] 10 _ _ _ _ h
theorem jb_Sc_runStep_7 {D : Nat} {kk : Int32 → jaT → Prop} {σ : jaT} {k : Nat} {x1 : Int32} {k2 : Nat} {x3 : Int32} {k4 : Nat} {x5 : Int32} {x6 : Int32} {x7 : Int32} {x8 : Int32} {x9 : Int32} {x10 : Int32} {xs0 : Int32} {xs1 : Int32} (h :
  jc_Sc_runStep_1 D kk k x1 k2 x3 k4 (xs0 + xs1) (x6 + (nI 1)) (some (.inl x7)) (some (.inl x8)) (some (.inl x9)) (some (.inl x10)) σ) :
  jc_Sc_runStep_7 D kk k x1 k2 x3 k4 x5 x6 x7 x8 x9 x10 xs0 xs1 σ :=
  jaRun_go (jaCall_self jaAr jaMt D) [1, 3, 4, 5, 7, 9, 13, 16, 19] 7 _ _ _ _ h
theorem jb_Sc_runStep_9 {D : Nat} {kk : Int32 → jaT → Prop} {σ : jaT} {k : Nat} {x1 : Int32} {k2 : Nat} {x3 : Int32} {k4 : Nat} {x5 : Int32} {x6 : Int32} {u7 : Option jaV} {u8 : Option jaV} {u9 : Option jaV} {u10 : Option jaV} (h :
  ((nI 0) = 0 ∨ (nI 0) = 1) ∧ kk (nI 0) σ) :
  jc_Sc_runStep_9 D kk k x1 k2 x3 k4 x5 x6 u7 u8 u9 u10 σ :=
  jaRun_go (jaCall_self jaAr jaMt D) [1, 3, 4, 5, 7, 9, 13, 16, 19] 5 _ _ _ _ h
theorem jb_Sc_runStep_13 {D : Nat} {kk : Int32 → jaT → Prop} {σ : jaT} {k : Nat} {x1 : Int32} {k2 : Nat} {x3 : Int32} {k4 : Nat} {x5 : Int32} {x6 : Int32} {u7 : Option jaV} {u8 : Option jaV} {u9 : Option jaV} {u10 : Option jaV} {xs0 : Int32} (h :
  (xs0 = 0 ∨ xs0 = 1) ∧ kk xs0 σ) :
  jc_Sc_runStep_13 D kk k x1 k2 x3 k4 x5 x6 u7 u8 u9 u10 xs0 σ :=
  jaRun_go (jaCall_self jaAr jaMt D) [1, 3, 4, 5, 7, 9, 13, 16, 19] 4 _ _ _ _ h
theorem jb_Sc_runStep_16 {D : Nat} {kk : Int32 → jaT → Prop} {σ : jaT} {k : Nat} {x1 : Int32} {k2 : Nat} {x3 : Int32} {k4 : Nat} {x5 : Int32} {x6 : Int32} {u7 : Option jaV} {u8 : Option jaV} {u9 : Option jaV} {u10 : Option jaV} {xs0 : Int32} (h :
  (xs0 = 0 ∨ xs0 = 1) ∧ kk xs0 σ) :
  jc_Sc_runStep_16 D kk k x1 k2 x3 k4 x5 x6 u7 u8 u9 u10 xs0 σ :=
  jaRun_go (jaCall_self jaAr jaMt D) [1, 3, 4, 5, 7, 9, 13, 16, 19] 4 _ _ _ _ h
theorem jb_Sc_runStep_19 {D : Nat} {kk : Int32 → jaT → Prop} {σ : jaT} {k : Nat} {x1 : Int32} {k2 : Nat} {x3 : Int32} {k4 : Nat} {x5 : Int32} {x6 : Int32} {u7 : Option jaV} {u8 : Option jaV} {u9 : Option jaV} {u10 : Option jaV} {xs0 : Int32} (h :
  (xs0 = 0 ∨ xs0 = 1) ∧ kk xs0 σ) :
  jc_Sc_runStep_19 D kk k x1 k2 x3 k4 x5 x6 u7 u8 u9 u10 xs0 σ :=
  jaRun_go (jaCall_self jaAr jaMt D) [1, 3, 4, 5, 7, 9, 13, 16, 19] 4 _ _ _ _ h
abbrev jm_Se_find : jaM := (jf_Se_find, jp_Se_find, 5)
def jc_Se_find_2 (D : Nat) (kk : Int32 → jaT → Prop) (k1 : Nat) (x3 : Int32) (x4 : Int32) (σ : jaT) : Prop := jaC (jaDe D) jm_Se_find (jaKi kk) 2 [some (.inr (.inr (16, 0, 0))), some (.inr (.inr (40, k1, 0))), some (.inr (.inr (1, 0, 0))), some (.inl x3), some (.inl x4)] [] σ
theorem js_Se_find {D : Nat} {kk : Int32 → jaT → Prop} {σ : jaT} {k1 : Nat} {x3 : Int32} (h :
  (jaDe D) jy_Se_isTold [.inr (.inr (30, k1, 0)), .inr (.inr (1, 0, 0)), .inl x3] σ (jaKi fun r2 σ1 =>
    (¬ r2 = 0 → 
      let σ3 : jaT := jaU σ1 0 (jaUI (σ1 0) 16 0 0 (nI 0))
      (jaDe D) jy_St_beginSerially [.inr (.inr (40, k1, 0)), .inr (.inr (18, 0, 0))] σ3 (jaKv fun σ4 =>
        (jaDe D) jy_Se_noteIfSo [.inr (.inr (16, 0, 0)), .inl (nI 0), .inr (.inr (1, 0, 0)), .inl x3] σ4 (jaKv fun σ5 =>
          jc_Se_find_2 D kk k1 x3 (nI 0) σ5))) ∧
    (r2 = 0 → kk (-1 : Int32) σ1))) :
  jaDe (D + 1) jy_Se_find [.inr (.inr (16, 0, 0)), .inr (.inr (40, k1, 0)), .inr (.inr (1, 0, 0)), .inl x3] σ (jaKi kk) :=
  jaCall_intro (mt := jaMt) (y := jy_Se_find) (f := jf_Se_find) (ps := jp_Se_find) (nL := 5) rfl rfl (jaRun_go (jaCall_self jaAr jaMt D) [2] 24 _ _ _ _ h)
theorem jb_Se_find_2 {D : Nat} {kk : Int32 → jaT → Prop} {σ : jaT} {k1 : Nat} {x3 : Int32} {x4 : Int32} (h :
  (((σ k1).1 60 0 1) ≤ x4 → 
    (((σ 0).1 16 0 0) ≤ 0 → kk ((σ 0).1 16 0 0) σ) ∧
    (¬ ((σ 0).1 16 0 0) ≤ 0 → 
      (jaDe D) jy_Se_chooseKey [.inr (.inr (16, 0, 0)), .inl ((σ k1).1 30 0 1)] σ (jaKi fun r2 σ1 =>
        let σ3 : jaT := jaU σ1 0 (jaUI (σ1 0) 16 0 2 r2)
        kk ((σ3 0).1 16 0 0) σ3))) ∧
  (¬ ((σ k1).1 60 0 1) ≤ x4 → 
    (jaDe D) jy_St_runSerially [.inr (.inr (40, k1, 0)), .inl x4, .inr (.inr (18, 0, 0))] σ (jaKv fun σ4 =>
      (jaDe D) jy_Se_noteIfSo [.inr (.inr (16, 0, 0)), .inl (x4 + (nI 1)), .inr (.inr (1, 0, 0)), .inl x3] σ4 (jaKv fun σ5 =>
        jc_Se_find_2 D kk k1 x3 (x4 + (nI 1)) σ5)))) :
  jc_Se_find_2 D kk k1 x3 x4 σ :=
  jaRun_go (jaCall_self jaAr jaMt D) [2] 22 _ _ _ _ h
abbrev jm_Se_isTold : jaM := (jf_Se_isTold, jp_Se_isTold, 4)
def jc_Se_isTold_3 (D : Nat) (kk : Int32 → jaT → Prop) (k : Nat) (x2 : Int32) (x3 : Int32) (σ : jaT) : Prop := jaC (jaDe D) jm_Se_isTold (jaKi kk) 3 [some (.inr (.inr (30, k, 0))), some (.inr (.inr (1, 0, 0))), some (.inl x2), some (.inl x3)] [] σ
theorem js_Se_isTold {D : Nat} {kk : Int32 → jaT → Prop} {σ : jaT} {k0 : Nat} {x2 : Int32} (h :
  (x2 < (nI 2) → ((nI 0) = 0 ∨ (nI 0) = 1) ∧ kk (nI 0) σ) ∧
  (¬ x2 < (nI 2) → 
    ((nI 12) < x2 → ((nI 0) = 0 ∨ (nI 0) = 1) ∧ kk (nI 0) σ) ∧
    (¬ (nI 12) < x2 → 
      ¬ (nI 2) = 0 ∧ (((x2 - x2 / (nI 2) * (nI 2)) = 0 → jc_Se_isTold_3 D kk k0 x2 (nI 0) σ) ∧
      (¬ (x2 - x2 / (nI 2) * (nI 2)) = 0 → ((nI 0) = 0 ∨ (nI 0) = 1) ∧ kk (nI 0) σ))))) :
  jaDe (D + 1) jy_Se_isTold [.inr (.inr (30, k0, 0)), .inr (.inr (1, 0, 0)), .inl x2] σ (jaKi kk) :=
  jaCall_intro (mt := jaMt) (y := jy_Se_isTold) (f := jf_Se_isTold) (ps := jp_Se_isTold) (nL := 4) rfl rfl (jaRun_go (jaCall_self jaAr jaMt D) [3] 16 _ _ _ _ h)
theorem jb_Se_isTold_3 {D : Nat} {kk : Int32 → jaT → Prop} {σ : jaT} {k : Nat} {x2 : Int32} {x3 : Int32} (h :
  (x2 ≤ x3 → ((nI 1) = 0 ∨ (nI 1) = 1) ∧ kk (nI 1) σ) ∧
  (¬ x2 ≤ x3 → 
    vp_in x3 940 ∧ ((((σ 0).1 1 0 (jaIx x3)) < ((σ k).1 30 0 1) → jc_Se_isTold_3 D kk k x2 (x3 + (nI 2)) σ) ∧
    (¬ ((σ 0).1 1 0 (jaIx x3)) < ((σ k).1 30 0 1) → ((nI 0) = 0 ∨ (nI 0) = 1) ∧ kk (nI 0) σ)))) :
  jc_Se_isTold_3 D kk k x2 x3 σ :=
  jaRun_go (jaCall_self jaAr jaMt D) [3] 14 _ _ _ _ h
abbrev jm_Se_noteIfSo : jaM := (jf_Se_noteIfSo, jp_Se_noteIfSo, 5)
def jc_Se_noteIfSo_1 (D : Nat) (kk : jaT → Prop) (x1 : Int32) (x3 : Int32) (x4 : Int32) (σ : jaT) : Prop := jaC (jaDe D) jm_Se_noteIfSo (jaKv kk) 1 [some (.inr (.inr (16, 0, 0))), some (.inl x1), some (.inr (.inr (1, 0, 0))), some (.inl x3), some (.inl x4)] [] σ
def jc_Se_noteIfSo_4 (D : Nat) (kk : jaT → Prop) (x1 : Int32) (x3 : Int32) (x4 : Int32) (σ : jaT) : Prop := jaC (jaDe D) jm_Se_noteIfSo (jaKv kk) 4 [some (.inr (.inr (16, 0, 0))), some (.inl x1), some (.inr (.inr (1, 0, 0))), some (.inl x3), some (.inl x4)] [] σ
theorem js_Se_noteIfSo {D : Nat} {kk : jaT → Prop} {σ : jaT} {x1 : Int32} {x3 : Int32} (h :
  jc_Se_noteIfSo_1 D kk x1 x3 (nI 0) σ) :
  jaDe (D + 1) jy_Se_noteIfSo [.inr (.inr (16, 0, 0)), .inl x1, .inr (.inr (1, 0, 0)), .inl x3] σ (jaKv kk) :=
  jaCall_intro (mt := jaMt) (y := jy_Se_noteIfSo) (f := jf_Se_noteIfSo) (ps := jp_Se_noteIfSo) (nL := 5) rfl rfl (jaRun_go (jaCall_self jaAr jaMt D) [1, 4] 6 _ _ _ _ h)
theorem jb_Se_noteIfSo_1 {D : Nat} {kk : jaT → Prop} {σ : jaT} {x1 : Int32} {x3 : Int32} {x4 : Int32} (h :
  (x3 ≤ (x4 + (nI 1)) → 
    vp_in ((σ 0).1 16 0 0) 41 ∧ 
    (let σ1 : jaT := jaU σ 0 (jaUI (σ 0) 17 0 (jaIx ((σ 0).1 16 0 0)) x1)
    jc_Se_noteIfSo_4 D kk x1 x3 (nI 0) σ1)) ∧
  (¬ x3 ≤ (x4 + (nI 1)) → 
    vp_in x4 940 ∧ (vp_in ((σ 0).1 1 0 (jaIx x4)) 10 ∧ (vp_in (x4 + (nI 1)) 940 ∧ ((((σ 0).1 18 0 (jaIx ((σ 0).1 1 0 (jaIx x4)))) = ((σ 0).1 1 0 (jaIx (x4 + (nI 1)))) → jc_Se_noteIfSo_1 D kk x1 x3 (x4 + (nI 2)) σ) ∧
    (¬ ((σ 0).1 18 0 (jaIx ((σ 0).1 1 0 (jaIx x4)))) = ((σ 0).1 1 0 (jaIx (x4 + (nI 1)))) → kk σ)))))) :
  jc_Se_noteIfSo_1 D kk x1 x3 x4 σ :=
  jaRun_go (jaCall_self jaAr jaMt D) [1, 4] 22 _ _ _ _ h
theorem jb_Se_noteIfSo_4 {D : Nat} {kk : jaT → Prop} {σ : jaT} {x1 : Int32} {x3 : Int32} {x4 : Int32} (h :
  ((nI 10) ≤ x4 → 
    let σ1 : jaT := jaU σ 0 (jaUI (σ 0) 16 0 0 (((σ 0).1 16 0 0) + (nI 1)))
    kk σ1) ∧
  (¬ (nI 10) ≤ x4 → 
    vp_in x4 10 ∧ (vp_in ((((σ 0).1 16 0 0) * (nI 10)) + x4) 410 ∧ 
    (let σ2 : jaT := jaU σ 0 (jaUI (σ 0) 19 0 (jaIx ((((σ 0).1 16 0 0) * (nI 10)) + x4)) ((σ 0).1 18 0 (jaIx x4)))
    jc_Se_noteIfSo_4 D kk x1 x3 (x4 + (nI 1)) σ2)))) :
  jc_Se_noteIfSo_4 D kk x1 x3 x4 σ :=
  jaRun_go (jaCall_self jaAr jaMt D) [1, 4] 21 _ _ _ _ h
abbrev jm_Se_chooseKey : jaM := (jf_Se_chooseKey, jp_Se_chooseKey, 7)
def jc_Se_chooseKey_1 (D : Nat) (kk : Int32 → jaT → Prop) (x1 : Int32) (x2 : Int32) (x3 : Int32) (x4 : Int32) (u5 : Option jaV) (u6 : Option jaV) (σ : jaT) : Prop := jaC (jaDe D) jm_Se_chooseKey (jaKi kk) 1 [some (.inr (.inr (16, 0, 0))), some (.inl x1), some (.inl x2), some (.inl x3), some (.inl x4), u5, u6] [] σ
def jc_Se_chooseKey_2 (D : Nat) (kk : Int32 → jaT → Prop) (x1 : Int32) (x2 : Int32) (x3 : Int32) (x4 : Int32) (x5 : Int32) (x6 : Int32) (σ : jaT) : Prop := jaC (jaDe D) jm_Se_chooseKey (jaKi kk) 2 [some (.inr (.inr (16, 0, 0))), some (.inl x1), some (.inl x2), some (.inl x3), some (.inl x4), some (.inl x5), some (.inl x6)] [] σ
theorem js_Se_chooseKey {D : Nat} {kk : Int32 → jaT → Prop} {σ : jaT} {x1 : Int32} (h :
  jc_Se_chooseKey_1 D kk x1 (-1 : Int32) (((σ 0).1 16 0 0) + (nI 1)) (nI 0) none none σ) :
  jaDe (D + 1) jy_Se_chooseKey [.inr (.inr (16, 0, 0)), .inl x1] σ (jaKi kk) :=
  jaCall_intro (mt := jaMt) (y := jy_Se_chooseKey) (f := jf_Se_chooseKey) (ps := jp_Se_chooseKey) (nL := 7) rfl rfl (jaRun_go (jaCall_self jaAr jaMt D) [1, 2] 13 _ _ _ _ h)
theorem jb_Se_chooseKey_1 {D : Nat} {kk : Int32 → jaT → Prop} {σ : jaT} {x1 : Int32} {x2 : Int32} {x3 : Int32} {x4 : Int32} {u5 : Option jaV} {u6 : Option jaV} (h :
  (x1 ≤ x4 → kk x2 σ) ∧
  (¬ x1 ≤ x4 → jc_Se_chooseKey_2 D kk x1 x2 x3 x4 (nI 0) (nI 0) σ)) :
  jc_Se_chooseKey_1 D kk x1 x2 x3 x4 u5 u6 σ :=
  jaRun_go (jaCall_self jaAr jaMt D) [1, 2] 11 _ _ _ _ h
theorem jb_Se_chooseKey_2 {D : Nat} {kk : Int32 → jaT → Prop} {σ : jaT} {x1 : Int32} {x2 : Int32} {x3 : Int32} {x4 : Int32} {x5 : Int32} {x6 : Int32} (h :
  (((σ 0).1 16 0 0) ≤ x6 → 
    (x3 ≤ x5 → 
      jc_Se_chooseKey_1 D kk x1 x2 x3 (x4 + (nI 1)) (some (.inl x5)) (some (.inl x6)) σ) ∧
    (¬ x3 ≤ x5 → 
      jc_Se_chooseKey_1 D kk x1 x4 x5 (x4 + (nI 1)) (some (.inl x5)) (some (.inl x6)) σ)) ∧
  (¬ ((σ 0).1 16 0 0) ≤ x6 → 
    (jaDe D) jy_Se_countLike [.inr (.inr (16, 0, 0)), .inl x4, .inl x6] σ (jaKi fun r2 σ1 =>
      (jaDe D) jy_JM_max [.inl x5, .inl r2] σ1 (jaKi fun r4 σ3 =>
        jc_Se_chooseKey_2 D kk x1 x2 x3 x4 r4 (x6 + (nI 1)) σ3)))) :
  jc_Se_chooseKey_2 D kk x1 x2 x3 x4 x5 x6 σ :=
  jaRun_go (jaCall_self jaAr jaMt D) [1, 2] 17 _ _ _ _ h
abbrev jm_Se_countLike : jaM := (jf_Se_countLike, jp_Se_countLike, 5)
def jc_Se_countLike_1 (D : Nat) (kk : Int32 → jaT → Prop) (x1 : Int32) (x2 : Int32) (x3 : Int32) (x4 : Int32) (σ : jaT) : Prop := jaC (jaDe D) jm_Se_countLike (jaKi kk) 1 [some (.inr (.inr (16, 0, 0))), some (.inl x1), some (.inl x2), some (.inl x3), some (.inl x4)] [] σ
theorem js_Se_countLike {D : Nat} {kk : Int32 → jaT → Prop} {σ : jaT} {x1 : Int32} {x2 : Int32} (h :
  jc_Se_countLike_1 D kk x1 x2 (nI 0) (nI 0) σ) :
  jaDe (D + 1) jy_Se_countLike [.inr (.inr (16, 0, 0)), .inl x1, .inl x2] σ (jaKi kk) :=
  jaCall_intro (mt := jaMt) (y := jy_Se_countLike) (f := jf_Se_countLike) (ps := jp_Se_countLike) (nL := 5) rfl rfl (jaRun_go (jaCall_self jaAr jaMt D) [1] 8 _ _ _ _ h)
theorem jb_Se_countLike_1 {D : Nat} {kk : Int32 → jaT → Prop} {σ : jaT} {x1 : Int32} {x2 : Int32} {x3 : Int32} {x4 : Int32} (h :
  (((σ 0).1 16 0 0) ≤ x4 → kk x3 σ) ∧
  (¬ ((σ 0).1 16 0 0) ≤ x4 → 
    vp_in ((x4 * (nI 10)) + x1) 410 ∧ (vp_in ((x2 * (nI 10)) + x1) 410 ∧ ((¬ ((σ 0).1 19 0 (jaIx ((x4 * (nI 10)) + x1))) = ((σ 0).1 19 0 (jaIx ((x2 * (nI 10)) + x1))) → jc_Se_countLike_1 D kk x1 x2 x3 (x4 + (nI 1)) σ) ∧
    (((σ 0).1 19 0 (jaIx ((x4 * (nI 10)) + x1))) = ((σ 0).1 19 0 (jaIx ((x2 * (nI 10)) + x1))) → jc_Se_countLike_1 D kk x1 x2 (x3 + (nI 1)) (x4 + (nI 1)) σ))))) :
  jc_Se_countLike_1 D kk x1 x2 x3 x4 σ :=
  jaRun_go (jaCall_self jaAr jaMt D) [1] 28 _ _ _ _ h
abbrev jm_Sn_forget : jaM := (jf_Sn_forget, jp_Sn_forget, 1)
theorem js_Sn_forget {D : Nat} {kk : jaT → Prop} {σ : jaT} {k : Nat} (h :
  ((nI 0) = 0 ∨ (nI 0) = 1) ∧
  (let σ1 : jaT := jaU σ k (jaUI (σ k) 20 0 0 (nI 0))
  let σ2 : jaT := jaU σ1 k (jaUI (σ1 k) 20 0 1 (nI 0))
  let σ3 : jaT := jaU σ2 k (jaUI (σ2 k) 20 0 2 (nI 0))
  kk σ3)) :
  jaDe (D + 1) jy_Sn_forget [.inr (.inr (20, k, 0))] σ (jaKv kk) :=
  jaCall_intro (mt := jaMt) (y := jy_Sn_forget) (f := jf_Sn_forget) (ps := jp_Sn_forget) (nL := 1) rfl rfl (jaRun_go (jaCall_self jaAr jaMt D) [] 13 _ _ _ _ h)
abbrev jm_Sn_copyFrom : jaM := (jf_Sn_copyFrom, jp_Sn_copyFrom, 3)
def jc_Sn_copyFrom_1 (D : Nat) (kk : jaT → Prop) (k : Nat) (k1 : Nat) (x2 : Int32) (σ : jaT) : Prop := jaC (jaDe D) jm_Sn_copyFrom (jaKv kk) 1 [some (.inr (.inr (20, k, 0))), some (.inr (.inr (20, k1, 0))), some (.inl x2)] [] σ
theorem js_Sn_copyFrom {D : Nat} {kk : jaT → Prop} {σ : jaT} {k : Nat} {k1 : Nat} (h :
  (((σ k1).1 20 0 0) = 0 ∨ ((σ k1).1 20 0 0) = 1) ∧
  (let σ1 : jaT := jaU σ k (jaUI (σ k) 20 0 0 ((σ k1).1 20 0 0))
  let σ2 : jaT := jaU σ1 k (jaUI (σ1 k) 20 0 1 ((σ1 k1).1 20 0 1))
  let σ3 : jaT := jaU σ2 k (jaUI (σ2 k) 20 0 2 ((σ2 k1).1 20 0 2))
  jc_Sn_copyFrom_1 D kk k k1 (nI 0) σ3)) :
  jaDe (D + 1) jy_Sn_copyFrom [.inr (.inr (20, k, 0)), .inr (.inr (20, k1, 0))] σ (jaKv kk) :=
  jaCall_intro (mt := jaMt) (y := jy_Sn_copyFrom) (f := jf_Sn_copyFrom) (ps := jp_Sn_copyFrom) (nL := 3) rfl rfl (jaRun_go (jaCall_self jaAr jaMt D) [1] 18 _ _ _ _ h)
theorem jb_Sn_copyFrom_1 {D : Nat} {kk : jaT → Prop} {σ : jaT} {k : Nat} {k1 : Nat} {x2 : Int32} (h :
  (((σ k).1 20 0 2) ≤ x2 → kk σ) ∧
  (¬ ((σ k).1 20 0 2) ≤ x2 → 
    vp_in x2 40 ∧ (vp_in x2 40 ∧ 
    (let σ1 : jaT := jaU σ k (jaUI (σ k) 21 0 (jaIx x2) ((σ k1).1 21 0 (jaIx x2)))
    vp_in x2 40 ∧ (vp_in x2 40 ∧ 
    (let σ2 : jaT := jaU σ1 k (jaUI (σ1 k) 22 0 (jaIx x2) ((σ1 k1).1 22 0 (jaIx x2)))
    vp_in x2 40 ∧ (vp_in x2 40 ∧ 
    (let σ3 : jaT := jaU σ2 k (jaUI (σ2 k) 23 0 (jaIx x2) ((σ2 k1).1 23 0 (jaIx x2)))
    jc_Sn_copyFrom_1 D kk k k1 (x2 + (nI 1)) σ3)))))))) :
  jc_Sn_copyFrom_1 D kk k k1 x2 σ :=
  jaRun_go (jaCall_self jaAr jaMt D) [1] 33 _ _ _ _ h
abbrev jm_Sn_read : jaM := (jf_Sn_read, jp_Sn_read, 3)
theorem js_Sn_read {D : Nat} {kk : Int32 → jaT → Prop} {σ : jaT} {k : Nat} {k2 : Nat} (h :
  (jaDe D) jy_Sn_forget [.inr (.inr (20, k, 0))] σ (jaKv fun σ1 =>
    (jaDe D) jy_Sn_readCond [.inr (.inr (20, k, 0)), .inr (.inr (2, 0, 0)), .inr (.inr (30, k2, 0)), .inl (nI 1)] σ1 (jaKi fun r3 σ2 =>
      (r3 = 0 → ((nI 0) = 0 ∨ (nI 0) = 1) ∧ kk (nI 0) σ2) ∧
      (¬ r3 = 0 → 
        (jaDe D) jy_Rd_take [.inr (.inr (2, 0, 0)), .inl (nI 1)] σ2 (jaKi fun r5 σ4 =>
          (¬ r5 = 0 → 
            ((nI 1) = 0 ∨ (nI 1) = 1) ∧
            (let σ6 : jaT := jaU σ4 k (jaUI (σ4 k) 20 0 0 (nI 1))
            ((nI 1) = 0 ∨ (nI 1) = 1) ∧ kk (nI 1) σ6)) ∧
          (r5 = 0 → ((nI 0) = 0 ∨ (nI 0) = 1) ∧ kk (nI 0) σ4)))))) :
  jaDe (D + 1) jy_Sn_read [.inr (.inr (20, k, 0)), .inr (.inr (2, 0, 0)), .inr (.inr (30, k2, 0))] σ (jaKi kk) :=
  jaCall_intro (mt := jaMt) (y := jy_Sn_read) (f := jf_Sn_read) (ps := jp_Sn_read) (nL := 3) rfl rfl (jaRun_go (jaCall_self jaAr jaMt D) [] 20 _ _ _ _ h)
abbrev jm_Sn_add : jaM := (jf_Sn_add, jp_Sn_add, 4)
theorem js_Sn_add {D : Nat} {kk : Int32 → jaT → Prop} {σ : jaT} {k : Nat} {x1 : Int32} {x2 : Int32} {x3 : Int32} (h :
  ((nI 40) ≤ ((σ k).1 20 0 2) → ((nI 0) = 0 ∨ (nI 0) = 1) ∧ kk (nI 0) σ) ∧
  (¬ (nI 40) ≤ ((σ k).1 20 0 2) → 
    (0 ≤ x3 → 
      vp_in ((σ k).1 20 0 2) 40 ∧ 
      (let σ1 : jaT := jaU σ k (jaUI (σ k) 21 0 (jaIx ((σ k).1 20 0 2)) x1)
      vp_in ((σ1 k).1 20 0 2) 40 ∧ 
      (let σ2 : jaT := jaU σ1 k (jaUI (σ1 k) 22 0 (jaIx ((σ1 k).1 20 0 2)) x2)
      vp_in ((σ2 k).1 20 0 2) 40 ∧ 
      (let σ3 : jaT := jaU σ2 k (jaUI (σ2 k) 23 0 (jaIx ((σ2 k).1 20 0 2)) x3)
      let σ4 : jaT := jaU σ3 k (jaUI (σ3 k) 20 0 2 (((σ3 k).1 20 0 2) + (nI 1)))
      ((nI 1) = 0 ∨ (nI 1) = 1) ∧ kk (nI 1) σ4)))) ∧
    (¬ 0 ≤ x3 → ((nI 0) = 0 ∨ (nI 0) = 1) ∧ kk (nI 0) σ))) :
  jaDe (D + 1) jy_Sn_add [.inr (.inr (20, k, 0)), .inl x1, .inl x2, .inl x3] σ (jaKi kk) :=
  jaCall_intro (mt := jaMt) (y := jy_Sn_add) (f := jf_Sn_add) (ps := jp_Sn_add) (nL := 4) rfl rfl (jaRun_go (jaCall_self jaAr jaMt D) [] 35 _ _ _ _ h)
abbrev jm_Sn_readCond : jaM := (jf_Sn_readCond, jp_Sn_readCond, 5)
def jc_Sn_readCond_2 (D : Nat) (kk : Int32 → jaT → Prop) (k : Nat) (k2 : Nat) (x3 : Int32) (x4 : Int32) (σ : jaT) : Prop := jaC (jaDe D) jm_Sn_readCond (jaKi kk) 2 [some (.inr (.inr (20, k, 0))), some (.inr (.inr (2, 0, 0))), some (.inr (.inr (30, k2, 0))), some (.inl x3), some (.inl x4)] [] σ
theorem js_Sn_readCond {D : Nat} {kk : Int32 → jaT → Prop} {σ : jaT} {k : Nat} {k2 : Nat} {x3 : Int32} (h :
  (jaDe D) jy_Sn_readAll [.inr (.inr (20, k, 0)), .inr (.inr (2, 0, 0)), .inr (.inr (30, k2, 0)), .inl x3] σ (jaKi fun r2 σ1 =>
    (¬ r2 = 0 → jc_Sn_readCond_2 D kk k k2 x3 (nI 0) σ1) ∧
    (r2 = 0 → ((nI 0) = 0 ∨ (nI 0) = 1) ∧ kk (nI 0) σ1))) :
  jaDe (D + 1) jy_Sn_readCond [.inr (.inr (20, k, 0)), .inr (.inr (2, 0, 0)), .inr (.inr (30, k2, 0)), .inl x3] σ (jaKi kk) :=
  jaCall_intro (mt := jaMt) (y := jy_Sn_readCond) (f := jf_Sn_readCond) (ps := jp_Sn_readCond) (nL := 5) rfl rfl (jaRun_go (jaCall_self jaAr jaMt D) [2] 12 _ _ _ _ h)
theorem jb_Sn_readCond_2 {D : Nat} {kk : Int32 → jaT → Prop} {σ : jaT} {k : Nat} {k2 : Nat} {x3 : Int32} {x4 : Int32} (h :
  ((nI 940) ≤ x4 → ((nI 1) = 0 ∨ (nI 1) = 1) ∧ kk (nI 1) σ) ∧
  (¬ (nI 940) ≤ x4 → 
    (jaDe D) jy_Rd_kind [.inr (.inr (2, 0, 0))] σ (jaKi fun r2 σ1 =>
      (¬ r2 = (nI 113) → ((nI 1) = 0 ∨ (nI 1) = 1) ∧ kk (nI 1) σ1) ∧
      (r2 = (nI 113) → 
        (jaDe D) jy_Rd_step [.inr (.inr (2, 0, 0))] σ1 (jaKv fun σ3 =>
          (jaDe D) jy_Sn_readAll [.inr (.inr (20, k, 0)), .inr (.inr (2, 0, 0)), .inr (.inr (30, k2, 0)), .inl x3] σ3 (jaKi fun r5 σ4 =>
            (r5 = 0 → ((nI 0) = 0 ∨ (nI 0) = 1) ∧ kk (nI 0) σ4) ∧
            (¬ r5 = 0 → 
              (jaDe D) jy_Sn_add [.inr (.inr (20, k, 0)), .inl (nI 113), .inl (nI 0), .inl (nI 0)] σ4 (jaKi fun r7 σ6 =>
                (¬ r7 = 0 → jc_Sn_readCond_2 D kk k k2 x3 (x4 + (nI 1)) σ6) ∧
                (r7 = 0 → ((nI 0) = 0 ∨ (nI 0) = 1) ∧ kk (nI 0) σ6))))))))) :
  jc_Sn_readCond_2 D kk k k2 x3 x4 σ :=
  jaRun_go (jaCall_self jaAr jaMt D) [2] 27 _ _ _ _ h
abbrev jm_Sn_readAll : jaM := (jf_Sn_readAll, jp_Sn_readAll, 5)
def jc_Sn_readAll_2 (D : Nat) (kk : Int32 → jaT → Prop) (k : Nat) (k2 : Nat) (x3 : Int32) (x4 : Int32) (σ : jaT) : Prop := jaC (jaDe D) jm_Sn_readAll (jaKi kk) 2 [some (.inr (.inr (20, k, 0))), some (.inr (.inr (2, 0, 0))), some (.inr (.inr (30, k2, 0))), some (.inl x3), some (.inl x4)] [] σ
theorem js_Sn_readAll {D : Nat} {kk : Int32 → jaT → Prop} {σ : jaT} {k : Nat} {k2 : Nat} {x3 : Int32} (h :
  (jaDe D) jy_Sn_readOne [.inr (.inr (20, k, 0)), .inr (.inr (2, 0, 0)), .inr (.inr (30, k2, 0)), .inl x3] σ (jaKi fun r2 σ1 =>
    (¬ r2 = 0 → jc_Sn_readAll_2 D kk k k2 x3 (nI 0) σ1) ∧
    (r2 = 0 → ((nI 0) = 0 ∨ (nI 0) = 1) ∧ kk (nI 0) σ1))) :
  jaDe (D + 1) jy_Sn_readAll [.inr (.inr (20, k, 0)), .inr (.inr (2, 0, 0)), .inr (.inr (30, k2, 0)), .inl x3] σ (jaKi kk) :=
  jaCall_intro (mt := jaMt) (y := jy_Sn_readAll) (f := jf_Sn_readAll) (ps := jp_Sn_readAll) (nL := 5) rfl rfl (jaRun_go (jaCall_self jaAr jaMt D) [2] 12 _ _ _ _ h)
theorem jb_Sn_readAll_2 {D : Nat} {kk : Int32 → jaT → Prop} {σ : jaT} {k : Nat} {k2 : Nat} {x3 : Int32} {x4 : Int32} (h :
  ((nI 940) ≤ x4 → ((nI 1) = 0 ∨ (nI 1) = 1) ∧ kk (nI 1) σ) ∧
  (¬ (nI 940) ≤ x4 → 
    (jaDe D) jy_Rd_kind [.inr (.inr (2, 0, 0))] σ (jaKi fun r2 σ1 =>
      (¬ r2 = (nI 114) → ((nI 1) = 0 ∨ (nI 1) = 1) ∧ kk (nI 1) σ1) ∧
      (r2 = (nI 114) → 
        (jaDe D) jy_Rd_step [.inr (.inr (2, 0, 0))] σ1 (jaKv fun σ3 =>
          (jaDe D) jy_Sn_readOne [.inr (.inr (20, k, 0)), .inr (.inr (2, 0, 0)), .inr (.inr (30, k2, 0)), .inl x3] σ3 (jaKi fun r5 σ4 =>
            (r5 = 0 → ((nI 0) = 0 ∨ (nI 0) = 1) ∧ kk (nI 0) σ4) ∧
            (¬ r5 = 0 → 
              (jaDe D) jy_Sn_add [.inr (.inr (20, k, 0)), .inl (nI 114), .inl (nI 0), .inl (nI 0)] σ4 (jaKi fun r7 σ6 =>
                (¬ r7 = 0 → jc_Sn_readAll_2 D kk k k2 x3 (x4 + (nI 1)) σ6) ∧
                (r7 = 0 → ((nI 0) = 0 ∨ (nI 0) = 1) ∧ kk (nI 0) σ6))))))))) :
  jc_Sn_readAll_2 D kk k k2 x3 x4 σ :=
  jaRun_go (jaCall_self jaAr jaMt D) [2] 27 _ _ _ _ h
abbrev jm_Sn_readOne : jaM := (jf_Sn_readOne, jp_Sn_readOne, 5)
def jc_Sn_readOne_1 (D : Nat) (kk : Int32 → jaT → Prop) (k : Nat) (k2 : Nat) (x3 : Int32) (x4 : Int32) (σ : jaT) : Prop := jaC (jaDe D) jm_Sn_readOne (jaKi kk) 1 [some (.inr (.inr (20, k, 0))), some (.inr (.inr (2, 0, 0))), some (.inr (.inr (30, k2, 0))), some (.inl x3), some (.inl x4)] [] σ
def jc_Sn_readOne_2 (D : Nat) (kk : Int32 → jaT → Prop) (k : Nat) (k2 : Nat) (x3 : Int32) (x4 : Int32) (σ : jaT) : Prop := jaC (jaDe D) jm_Sn_readOne (jaKi kk) 2 [some (.inr (.inr (20, k, 0))), some (.inr (.inr (2, 0, 0))), some (.inr (.inr (30, k2, 0))), some (.inl x3), some (.inl x4)] [] σ
def jc_Sn_readOne_3 (D : Nat) (kk : Int32 → jaT → Prop) (k : Nat) (k2 : Nat) (x3 : Int32) (x4 : Int32) (σ : jaT) : Prop := jaC (jaDe D) jm_Sn_readOne (jaKi kk) 3 [some (.inr (.inr (20, k, 0))), some (.inr (.inr (2, 0, 0))), some (.inr (.inr (30, k2, 0))), some (.inl x3), some (.inl x4)] [] σ
def jc_Sn_readOne_6 (D : Nat) (kk : Int32 → jaT → Prop) (k : Nat) (k2 : Nat) (x3 : Int32) (x4 : Int32) (σ : jaT) : Prop := jaC (jaDe D) jm_Sn_readOne (jaKi kk) 6 [some (.inr (.inr (20, k, 0))), some (.inr (.inr (2, 0, 0))), some (.inr (.inr (30, k2, 0))), some (.inl x3), some (.inl x4)] [] σ
def jc_Sn_readOne_7 (D : Nat) (kk : Int32 → jaT → Prop) (k : Nat) (k2 : Nat) (x3 : Int32) (x4 : Int32) (xs0 : Int32) (σ : jaT) : Prop := jaC (jaDe D) jm_Sn_readOne (jaKi kk) 7 [some (.inr (.inr (20, k, 0))), some (.inr (.inr (2, 0, 0))), some (.inr (.inr (30, k2, 0))), some (.inl x3), some (.inl x4)] [.inl xs0] σ
def jc_Sn_readOne_9 (D : Nat) (kk : Int32 → jaT → Prop) (k : Nat) (k2 : Nat) (x3 : Int32) (x4 : Int32) (σ : jaT) : Prop := jaC (jaDe D) jm_Sn_readOne (jaKi kk) 9 [some (.inr (.inr (20, k, 0))), some (.inr (.inr (2, 0, 0))), some (.inr (.inr (30, k2, 0))), some (.inl x3), some (.inl x4)] [] σ
def jc_Sn_readOne_10 (D : Nat) (kk : Int32 → jaT → Prop) (k : Nat) (k2 : Nat) (x3 : Int32) (x4 : Int32) (xs0 : Int32) (σ : jaT) : Prop := jaC (jaDe D) jm_Sn_readOne (jaKi kk) 10 [some (.inr (.inr (20, k, 0))), some (.inr (.inr (2, 0, 0))), some (.inr (.inr (30, k2, 0))), some (.inl x3), some (.inl x4)] [.inl xs0] σ
def jc_Sn_readOne_11 (D : Nat) (kk : Int32 → jaT → Prop) (k : Nat) (k2 : Nat) (x3 : Int32) (x4 : Int32) (σ : jaT) : Prop := jaC (jaDe D) jm_Sn_readOne (jaKi kk) 11 [some (.inr (.inr (20, k, 0))), some (.inr (.inr (2, 0, 0))), some (.inr (.inr (30, k2, 0))), some (.inl x3), some (.inl x4)] [] σ
def jc_Sn_readOne_13 (D : Nat) (kk : Int32 → jaT → Prop) (k : Nat) (k2 : Nat) (x3 : Int32) (x4 : Int32) (σ : jaT) : Prop := jaC (jaDe D) jm_Sn_readOne (jaKi kk) 13 [some (.inr (.inr (20, k, 0))), some (.inr (.inr (2, 0, 0))), some (.inr (.inr (30, k2, 0))), some (.inl x3), some (.inl x4)] [] σ
theorem js_Sn_readOne {D : Nat} {kk : Int32 → jaT → Prop} {σ : jaT} {k : Nat} {k2 : Nat} {x3 : Int32} (h :
  (jaDe D) jy_Rd_kind [.inr (.inr (2, 0, 0))] σ (jaKi fun r2 σ1 =>
    (r2 = (nI 40) → jc_Sn_readOne_2 D kk k k2 x3 r2 σ1) ∧
    (¬ r2 = (nI 40) → 
      (r2 < (nI 115) → jc_Sn_readOne_1 D kk k k2 x3 r2 σ1) ∧
      (¬ r2 < (nI 115) → 
        (r2 ≤ (nI 128) → jc_Sn_readOne_2 D kk k k2 x3 r2 σ1) ∧
        (¬ r2 ≤ (nI 128) → jc_Sn_readOne_1 D kk k k2 x3 r2 σ1))))) :
  jaDe (D + 1) jy_Sn_readOne [.inr (.inr (20, k, 0)), .inr (.inr (2, 0, 0)), .inr (.inr (30, k2, 0)), .inl x3] σ (jaKi kk) :=
  jaCall_intro (mt := jaMt) (y := jy_Sn_readOne) (f := jf_Sn_readOne) (ps := jp_Sn_readOne) (nL := 5) rfl rfl (jaRun_go (jaCall_self jaAr jaMt D) [1, 2, 3, 6, 7, 9, 10, 11, 13] 16 _ _ _ _ h)
theorem jb_Sn_readOne_1 {D : Nat} {kk : Int32 → jaT → Prop} {σ : jaT} {k : Nat} {k2 : Nat} {x3 : Int32} {x4 : Int32} (h :
  (jaDe D) jy_Rd_fail [.inr (.inr (2, 0, 0)), .inl (nI 1)] σ (jaKi fun r2 σ1 =>
    (r2 = 0 ∨ r2 = 1) ∧ kk r2 σ1)) :
  jc_Sn_readOne_1 D kk k k2 x3 x4 σ :=
  jaRun_go (jaCall_self jaAr jaMt D) [1, 2, 3, 6, 7, 9, 10, 11, 13] 7 _ _ _ _ h
theorem jb_Sn_readOne_2 {D : Nat} {kk : Int32 → jaT → Prop} {σ : jaT} {k : Nat} {k2 : Nat} {x3 : Int32} {x4 : Int32} (h :
  ((nI 20) ≤ ((σ k).1 20 0 1) → jc_Sn_readOne_3 D kk k k2 x3 x4 σ) ∧
  (¬ (nI 20) ≤ ((σ k).1 20 0 1) → 
    (x3 ≤ (nI 8) → 
      let σ1 : jaT := jaU σ k (jaUI (σ k) 20 0 1 (((σ k).1 20 0 1) + (nI 1)))
      (jaDe D) jy_Rd_step [.inr (.inr (2, 0, 0))] σ1 (jaKv fun σ2 =>
        (¬ x4 = nI 40 ∧ ¬ x4 = nI 115 ∧ ¬ x4 = nI 123 ∧ ¬ x4 = nI 124 ∧ ¬ x4 = nI 125 ∧ ¬ x4 = nI 126 ∧ ¬ x4 = nI 127 ∧ ¬ x4 = nI 128 ∧ True → 
          (jaDe D) jy_Sn_add [.inr (.inr (20, k, 0)), .inl x4, .inl (nI 0), .inl (nI 0)] σ2 (jaKi fun r4 σ3 =>
            (r4 = 0 ∨ r4 = 1) ∧ kk r4 σ3)) ∧
        (x4 = nI 40 → 
          (jaDe D) jy_Sn_readCond [.inr (.inr (20, k, 0)), .inr (.inr (2, 0, 0)), .inr (.inr (30, k2, 0)), .inl (x3 + (nI 1))] σ2 (jaKi fun r6 σ5 =>
            (r6 = 0 → jc_Sn_readOne_6 D kk k k2 x3 x4 σ5) ∧
            (¬ r6 = 0 → 
              (jaDe D) jy_Rd_take [.inr (.inr (2, 0, 0)), .inl (nI 41)] σ5 (jaKi fun r8 σ7 =>
                (r8 = 0 → jc_Sn_readOne_6 D kk k k2 x3 x4 σ7) ∧
                (¬ r8 = 0 → jc_Sn_readOne_7 D kk k k2 x3 x4 (nI 1) σ7))))) ∧
        (x4 = nI 115 → 
          (jaDe D) jy_Sn_readOne [.inr (.inr (20, k, 0)), .inr (.inr (2, 0, 0)), .inr (.inr (30, k2, 0)), .inl (x3 + (nI 1))] σ2 (jaKi fun r10 σ9 =>
            (r10 = 0 → jc_Sn_readOne_9 D kk k k2 x3 x4 σ9) ∧
            (¬ r10 = 0 → 
              (jaDe D) jy_Sn_add [.inr (.inr (20, k, 0)), .inl (nI 115), .inl (nI 0), .inl (nI 0)] σ9 (jaKi fun r12 σ11 =>
                (r12 = 0 → jc_Sn_readOne_9 D kk k k2 x3 x4 σ11) ∧
                (¬ r12 = 0 → jc_Sn_readOne_10 D kk k k2 x3 x4 (nI 1) σ11))))) ∧
        (x4 = nI 123 → jc_Sn_readOne_11 D kk k k2 x3 x4 σ2) ∧
        (x4 = nI 124 → jc_Sn_readOne_11 D kk k k2 x3 x4 σ2) ∧
        (x4 = nI 125 → 
          (jaDe D) jy_Wo_takeNamed [.inr (.inr (30, k2, 0)), .inr (.inr (2, 0, 0)), .inl (nI 0), .inl ((σ2 k2).1 30 0 0)] σ2 (jaKi fun r14 σ13 =>
            (jaDe D) jy_Sn_add [.inr (.inr (20, k, 0)), .inl x4, .inl (nI 0), .inl r14] σ13 (jaKi fun r16 σ15 =>
              (r16 = 0 ∨ r16 = 1) ∧ kk r16 σ15))) ∧
        (x4 = nI 126 → jc_Sn_readOne_13 D kk k k2 x3 x4 σ2) ∧
        (x4 = nI 127 → jc_Sn_readOne_13 D kk k k2 x3 x4 σ2) ∧
        (x4 = nI 128 → jc_Sn_readOne_13 D kk k k2 x3 x4 σ2) ∧ True)) ∧
    (¬ x3 ≤ (nI 8) → jc_Sn_readOne_3 D kk k k2 x3 x4 σ))) :
  jc_Sn_readOne_2 D kk k k2 x3 x4 σ :=
  jaRun_go (jaCall_self jaAr jaMt D) [1, 2, 3, 6, 7, 9, 10, 11, 13] 36 _ _ _ _ h
theorem jb_Sn_readOne_3 {D : Nat} {kk : Int32 → jaT → Prop} {σ : jaT} {k : Nat} {k2 : Nat} {x3 : Int32} {x4 : Int32} (h :
  (jaDe D) jy_Rd_fail [.inr (.inr (2, 0, 0)), .inl (nI 4)] σ (jaKi fun r2 σ1 =>
    (r2 = 0 ∨ r2 = 1) ∧ kk r2 σ1)) :
  jc_Sn_readOne_3 D kk k k2 x3 x4 σ :=
  jaRun_go (jaCall_self jaAr jaMt D) [1, 2, 3, 6, 7, 9, 10, 11, 13] 7 _ _ _ _ h
theorem jb_Sn_readOne_6 {D : Nat} {kk : Int32 → jaT → Prop} {σ : jaT} {k : Nat} {k2 : Nat} {x3 : Int32} {x4 : Int32} (h :
  jc_Sn_readOne_7 D kk k k2 x3 x4 (nI 0) σ) :
  jc_Sn_readOne_6 D kk k k2 x3 x4 σ :=
  jaRun_go (jaCall_self jaAr jaMt D) [1, 2, 3, 6, 7, 9, 10, 11, 13] 5 _ _ _ _ h
theorem jb_Sn_readOne_7 {D : Nat} {kk : Int32 → jaT → Prop} {σ : jaT} {k : Nat} {k2 : Nat} {x3 : Int32} {x4 : Int32} {xs0 : Int32} (h :
  (xs0 = 0 ∨ xs0 = 1) ∧ kk xs0 σ) :
  jc_Sn_readOne_7 D kk k k2 x3 x4 xs0 σ :=
  jaRun_go (jaCall_self jaAr jaMt D) [1, 2, 3, 6, 7, 9, 10, 11, 13] 4 _ _ _ _ h
theorem jb_Sn_readOne_9 {D : Nat} {kk : Int32 → jaT → Prop} {σ : jaT} {k : Nat} {k2 : Nat} {x3 : Int32} {x4 : Int32} (h :
  jc_Sn_readOne_10 D kk k k2 x3 x4 (nI 0) σ) :
  jc_Sn_readOne_9 D kk k k2 x3 x4 σ :=
  jaRun_go (jaCall_self jaAr jaMt D) [1, 2, 3, 6, 7, 9, 10, 11, 13] 5 _ _ _ _ h
theorem jb_Sn_readOne_10 {D : Nat} {kk : Int32 → jaT → Prop} {σ : jaT} {k : Nat} {k2 : Nat} {x3 : Int32} {x4 : Int32} {xs0 : Int32} (h :
  (xs0 = 0 ∨ xs0 = 1) ∧ kk xs0 σ) :
  jc_Sn_readOne_10 D kk k k2 x3 x4 xs0 σ :=
  jaRun_go (jaCall_self jaAr jaMt D) [1, 2, 3, 6, 7, 9, 10, 11, 13] 4 _ _ _ _ h
theorem jb_Sn_readOne_11 {D : Nat} {kk : Int32 → jaT → Prop} {σ : jaT} {k : Nat} {k2 : Nat} {x3 : Int32} {x4 : Int32} (h :
  (jaDe D) jy_Wo_takeNamed [.inr (.inr (30, k2, 0)), .inr (.inr (2, 0, 0)), .inl (nI 3), .inl ((σ k2).1 30 0 1)] σ (jaKi fun r2 σ1 =>
    (jaDe D) jy_Sn_add [.inr (.inr (20, k, 0)), .inl x4, .inl (nI 0), .inl r2] σ1 (jaKi fun r4 σ3 =>
      (r4 = 0 ∨ r4 = 1) ∧ kk r4 σ3))) :
  jc_Sn_readOne_11 D kk k k2 x3 x4 σ :=
  jaRun_go (jaCall_self jaAr jaMt D) [1, 2, 3, 6, 7, 9, 10, 11, 13] 14 _ _ _ _ h
theorem jb_Sn_readOne_13 {D : Nat} {kk : Int32 → jaT → Prop} {σ : jaT} {k : Nat} {k2 : Nat} {x3 : Int32} {x4 : Int32} (h :
  (jaDe D) jy_Sn_readCompared [.inr (.inr (20, k, 0)), .inr (.inr (2, 0, 0)), .inl x4] σ (jaKi fun r2 σ1 =>
    (r2 = 0 ∨ r2 = 1) ∧ kk r2 σ1)) :
  jc_Sn_readOne_13 D kk k k2 x3 x4 σ :=
  jaRun_go (jaCall_self jaAr jaMt D) [1, 2, 3, 6, 7, 9, 10, 11, 13] 8 _ _ _ _ h
abbrev jm_Sn_readCompared : jaM := (jf_Sn_readCompared, jp_Sn_readCompared, 4)
theorem js_Sn_readCompared {D : Nat} {kk : Int32 → jaT → Prop} {σ : jaT} {k : Nat} {x2 : Int32} (h :
  (jaDe D) jy_Rd_takeCompare [.inr (.inr (2, 0, 0))] σ (jaKi fun r2 σ1 =>
    (r2 < 0 → ((nI 0) = 0 ∨ (nI 0) = 1) ∧ kk (nI 0) σ1) ∧
    (¬ r2 < 0 → 
      (jaDe D) jy_Rd_takeNumber [.inr (.inr (2, 0, 0)), .inl (nI 0), .inl (nI 999)] σ1 (jaKi fun r4 σ3 =>
        (jaDe D) jy_Sn_add [.inr (.inr (20, k, 0)), .inl x2, .inl r2, .inl r4] σ3 (jaKi fun r6 σ5 =>
          (r6 = 0 → ((nI 0) = 0 ∨ (nI 0) = 1) ∧ kk (nI 0) σ5) ∧
          (¬ r6 = 0 → ((nI 1) = 0 ∨ (nI 1) = 1) ∧ kk (nI 1) σ5)))))) :
  jaDe (D + 1) jy_Sn_readCompared [.inr (.inr (20, k, 0)), .inr (.inr (2, 0, 0)), .inl x2] σ (jaKi kk) :=
  jaCall_intro (mt := jaMt) (y := jy_Sn_readCompared) (f := jf_Sn_readCompared) (ps := jp_Sn_readCompared) (nL := 4) rfl rfl (jaRun_go (jaCall_self jaAr jaMt D) [] 20 _ _ _ _ h)
abbrev jm_Sn_holds : jaM := (jf_Sn_holds, jp_Sn_holds, 9)
def jc_Sn_holds_1 (D : Nat) (kk : Int32 → jaT → Prop) (k : Nat) (k1 : Nat) (x2 : Int32) (x3 : Int32) (x4 : Int64) (x6 : Int32) (u7 : Option jaV) (σ : jaT) : Prop := jaC (jaDe D) jm_Sn_holds (jaKi kk) 1 [some (.inr (.inr (20, k, 0))), some (.inr (.inr (40, k1, 0))), some (.inl x2), some (.inl x3), some (.inr (.inl x4)), none, some (.inl x6), u7, none] [] σ
theorem js_Sn_holds {D : Nat} {kk : Int32 → jaT → Prop} {σ : jaT} {k : Nat} {k1 : Nat} {x2 : Int32} {x3 : Int32} (h :
  jc_Sn_holds_1 D kk k k1 x2 x3 (Int64.ofNat 0) (nI 0) none σ) :
  jaDe (D + 1) jy_Sn_holds [.inr (.inr (20, k, 0)), .inr (.inr (40, k1, 0)), .inl x2, .inl x3] σ (jaKi kk) :=
  jaCall_intro (mt := jaMt) (y := jy_Sn_holds) (f := jf_Sn_holds) (ps := jp_Sn_holds) (nL := 9) rfl rfl (jaRun_go (jaCall_self jaAr jaMt D) [1] 8 _ _ _ _ h)
theorem jb_Sn_holds_1 {D : Nat} {kk : Int32 → jaT → Prop} {σ : jaT} {k : Nat} {k1 : Nat} {x2 : Int32} {x3 : Int32} {x4 : Int64} {x6 : Int32} {u7 : Option jaV} (h :
  (((σ k).1 20 0 2) ≤ x6 → 
    (¬ (lg_cmp (x4 &&& (Int64.ofNat 1)) (Int64.ofNat 1)) = 0 → ((nI 0) = 0 ∨ (nI 0) = 1) ∧ kk (nI 0) σ) ∧
    ((lg_cmp (x4 &&& (Int64.ofNat 1)) (Int64.ofNat 1)) = 0 → ((nI 1) = 0 ∨ (nI 1) = 1) ∧ kk (nI 1) σ)) ∧
  (¬ ((σ k).1 20 0 2) ≤ x6 → 
    vp_in x6 40 ∧ ((((σ k).1 21 0 (jaIx x6)).toInt < 113 ∨ 115 < ((σ k).1 21 0 (jaIx x6)).toInt → 
      (jaDe D) jy_Sn_isSo [.inr (.inr (20, k, 0)), .inl x6, .inr (.inr (40, k1, 0)), .inl x2, .inl x3] σ (jaKi fun r2 σ1 =>
        (r2 = 0 → 
          jc_Sn_holds_1 D kk k k1 x2 x3 ((x4 <<< (Int32.toInt64 (nI 1) &&& 63)) ||| (Int32.toInt64 (nI 0))) (x6 + (nI 1)) (some (.inr (.inl (x4 &&& (Int64.ofNat 1))))) σ1) ∧
        (¬ r2 = 0 → 
          jc_Sn_holds_1 D kk k k1 x2 x3 ((x4 <<< (Int32.toInt64 (nI 1) &&& 63)) ||| (Int32.toInt64 (nI 1))) (x6 + (nI 1)) (some (.inr (.inl (x4 &&& (Int64.ofNat 1))))) σ1))) ∧
    (((σ k).1 21 0 (jaIx x6)) = nI 113 → 
      jc_Sn_holds_1 D kk k k1 x2 x3 (((Int64.toUInt64 x4 >>> (Int64.toUInt64 (Int32.toInt64 (nI 1)) &&& Int64.toUInt64 63)).toInt64) ||| (x4 &&& (Int64.ofNat 1))) (x6 + (nI 1)) (some (.inr (.inl (x4 &&& (Int64.ofNat 1))))) σ) ∧
    (((σ k).1 21 0 (jaIx x6)) = nI 114 → 
      (¬ (lg_cmp (x4 &&& (Int64.ofNat 1)) (Int64.ofNat 1)) = 0 → 
        jc_Sn_holds_1 D kk k k1 x2 x3 (((Int64.toUInt64 x4 >>> (Int64.toUInt64 (Int32.toInt64 (nI 1)) &&& Int64.toUInt64 63)).toInt64) &&& (Int64.ofNat 18446744073709551614)) (x6 + (nI 1)) (some (.inr (.inl (x4 &&& (Int64.ofNat 1))))) σ) ∧
      ((lg_cmp (x4 &&& (Int64.ofNat 1)) (Int64.ofNat 1)) = 0 → 
        jc_Sn_holds_1 D kk k k1 x2 x3 (((Int64.toUInt64 x4 >>> (Int64.toUInt64 (Int32.toInt64 (nI 1)) &&& Int64.toUInt64 63)).toInt64) &&& (Int64.ofNat 18446744073709551615)) (x6 + (nI 1)) (some (.inr (.inl (x4 &&& (Int64.ofNat 1))))) σ)) ∧
    (((σ k).1 21 0 (jaIx x6)) = nI 115 → 
      jc_Sn_holds_1 D kk k k1 x2 x3 (x4 ^^^ (Int64.ofNat 1)) (x6 + (nI 1)) (some (.inr (.inl (x4 &&& (Int64.ofNat 1))))) σ) ∧ True))) :
  jc_Sn_holds_1 D kk k k1 x2 x3 x4 x6 u7 σ :=
  jaRun_go (jaCall_self jaAr jaMt D) [1] 34 _ _ _ _ h
abbrev jm_Sn_isSo : jaM := (jf_Sn_isSo, jp_Sn_isSo, 7)
theorem js_Sn_isSo {D : Nat} {kk : Int32 → jaT → Prop} {σ : jaT} {k : Nat} {x1 : Int32} {k2 : Nat} {x3 : Int32} {x4 : Int32} (h :
  vp_in x3 40 ∧ (vp_in (nI 0) 3 ∧ (vp_in x3 40 ∧ (vp_in x1 40 ∧ ((((σ k).1 21 0 (jaIx x1)).toInt < 116 ∨ 127 < ((σ k).1 21 0 (jaIx x1)).toInt → 
    vp_in ((σ k2).1 68 0 (jaIx x3)) 64 ∧ ((jaDe D) jy_Sn_compares [.inr (.inr (20, k, 0)), .inl ((σ k2).1 61 0 (jaIx ((σ k2).1 68 0 (jaIx x3)))), .inl x1] σ (jaKi fun r2 σ1 =>
      (r2 = 0 ∨ r2 = 1) ∧ kk r2 σ1))) ∧
  (((σ k).1 21 0 (jaIx x1)) = nI 116 → 
    (¬ ((σ k2).1 52 (jaIx (nI 0)) (jaIx x3)) = 0 → ((nI 0) = 0 ∨ (nI 0) = 1) ∧ kk (nI 0) σ) ∧
    (((σ k2).1 52 (jaIx (nI 0)) (jaIx x3)) = 0 → ((nI 1) = 0 ∨ (nI 1) = 1) ∧ kk (nI 1) σ)) ∧
  (((σ k).1 21 0 (jaIx x1)) = nI 117 → 
    (¬ ((σ k2).1 52 (jaIx (nI 0)) (jaIx x3)) = (nI 1) → ((nI 0) = 0 ∨ (nI 0) = 1) ∧ kk (nI 0) σ) ∧
    (((σ k2).1 52 (jaIx (nI 0)) (jaIx x3)) = (nI 1) → ((nI 1) = 0 ∨ (nI 1) = 1) ∧ kk (nI 1) σ)) ∧
  (((σ k).1 21 0 (jaIx x1)) = nI 118 → 
    (¬ ((σ k2).1 52 (jaIx (nI 0)) (jaIx x3)) = (nI 2) → ((nI 0) = 0 ∨ (nI 0) = 1) ∧ kk (nI 0) σ) ∧
    (((σ k2).1 52 (jaIx (nI 0)) (jaIx x3)) = (nI 2) → ((nI 1) = 0 ∨ (nI 1) = 1) ∧ kk (nI 1) σ)) ∧
  (((σ k).1 21 0 (jaIx x1)) = nI 119 → 
    (¬ ((σ k2).1 52 (jaIx (nI 0)) (jaIx x3)) = (nI 3) → ((nI 0) = 0 ∨ (nI 0) = 1) ∧ kk (nI 0) σ) ∧
    (((σ k2).1 52 (jaIx (nI 0)) (jaIx x3)) = (nI 3) → ((nI 1) = 0 ∨ (nI 1) = 1) ∧ kk (nI 1) σ)) ∧
  (((σ k).1 21 0 (jaIx x1)) = nI 120 → 
    (¬ ((σ k2).1 52 (jaIx (nI 0)) (jaIx x3)) = (nI 4) → ((nI 0) = 0 ∨ (nI 0) = 1) ∧ kk (nI 0) σ) ∧
    (((σ k2).1 52 (jaIx (nI 0)) (jaIx x3)) = (nI 4) → ((nI 1) = 0 ∨ (nI 1) = 1) ∧ kk (nI 1) σ)) ∧
  (((σ k).1 21 0 (jaIx x1)) = nI 121 → (x4 = 0 ∨ x4 = 1) ∧ kk x4 σ) ∧
  (((σ k).1 21 0 (jaIx x1)) = nI 122 → 
    vp_in ((σ k2).1 68 0 (jaIx x3)) 64 ∧ ((((σ k2).1 64 0 (jaIx ((σ k2).1 68 0 (jaIx x3)))) = 0 ∨ ((σ k2).1 64 0 (jaIx ((σ k2).1 68 0 (jaIx x3)))) = 1) ∧ kk ((σ k2).1 64 0 (jaIx ((σ k2).1 68 0 (jaIx x3)))) σ)) ∧
  (((σ k).1 21 0 (jaIx x1)) = nI 123 → 
    vp_in ((σ k2).1 68 0 (jaIx x3)) 64 ∧ (vp_in x1 40 ∧ ((¬ (((Int32.toUInt32 ((σ k2).1 62 0 (jaIx ((σ k2).1 68 0 (jaIx x3)))) >>> (Int32.toUInt32 ((σ k).1 23 0 (jaIx x1)) &&& Int32.toUInt32 31)).toInt32) &&& (nI 1)) = (nI 1) → ((nI 0) = 0 ∨ (nI 0) = 1) ∧ kk (nI 0) σ) ∧
    ((((Int32.toUInt32 ((σ k2).1 62 0 (jaIx ((σ k2).1 68 0 (jaIx x3)))) >>> (Int32.toUInt32 ((σ k).1 23 0 (jaIx x1)) &&& Int32.toUInt32 31)).toInt32) &&& (nI 1)) = (nI 1) → ((nI 1) = 0 ∨ (nI 1) = 1) ∧ kk (nI 1) σ)))) ∧
  (((σ k).1 21 0 (jaIx x1)) = nI 124 → 
    vp_in ((σ k2).1 68 0 (jaIx x3)) 64 ∧ (vp_in x1 40 ∧ ((¬ (((Int32.toUInt32 ((σ k2).1 63 0 (jaIx ((σ k2).1 68 0 (jaIx x3)))) >>> (Int32.toUInt32 ((σ k).1 23 0 (jaIx x1)) &&& Int32.toUInt32 31)).toInt32) &&& (nI 1)) = (nI 1) → ((nI 0) = 0 ∨ (nI 0) = 1) ∧ kk (nI 0) σ) ∧
    ((((Int32.toUInt32 ((σ k2).1 63 0 (jaIx ((σ k2).1 68 0 (jaIx x3)))) >>> (Int32.toUInt32 ((σ k).1 23 0 (jaIx x1)) &&& Int32.toUInt32 31)).toInt32) &&& (nI 1)) = (nI 1) → ((nI 1) = 0 ∨ (nI 1) = 1) ∧ kk (nI 1) σ)))) ∧
  (((σ k).1 21 0 (jaIx x1)) = nI 125 → 
    (jaDe D) jy_St_siteOf [.inr (.inr (40, k2, 0)), .inl ((σ k2).1 68 0 (jaIx x3))] σ (jaKi fun r4 σ3 =>
      vp_in x1 40 ∧ ((¬ r4 = ((σ3 k).1 23 0 (jaIx x1)) → ((nI 0) = 0 ∨ (nI 0) = 1) ∧ kk (nI 0) σ3) ∧
      (r4 = ((σ3 k).1 23 0 (jaIx x1)) → ((nI 1) = 0 ∨ (nI 1) = 1) ∧ kk (nI 1) σ3)))) ∧
  (((σ k).1 21 0 (jaIx x1)) = nI 126 → 
    (jaDe D) jy_Sn_compares [.inr (.inr (20, k, 0)), .inl x3, .inl x1] σ (jaKi fun r6 σ5 =>
      (r6 = 0 ∨ r6 = 1) ∧ kk r6 σ5)) ∧
  (((σ k).1 21 0 (jaIx x1)) = nI 127 → 
    vp_in ((σ k2).1 68 0 (jaIx x3)) 64 ∧ ((jaDe D) jy_En_countOf [.inr (.inr (60, k2, 0)), .inl ((σ k2).1 61 0 (jaIx ((σ k2).1 68 0 (jaIx x3))))] σ (jaKi fun r8 σ7 =>
      (jaDe D) jy_Sn_compares [.inr (.inr (20, k, 0)), .inl r8, .inl x1] σ7 (jaKi fun r10 σ9 =>
        (r10 = 0 ∨ r10 = 1) ∧ kk r10 σ9)))) ∧ True))))) :
  jaDe (D + 1) jy_Sn_isSo [.inr (.inr (20, k, 0)), .inl x1, .inr (.inr (40, k2, 0)), .inl x3, .inl x4] σ (jaKi kk) :=
  jaCall_intro (mt := jaMt) (y := jy_Sn_isSo) (f := jf_Sn_isSo) (ps := jp_Sn_isSo) (nL := 7) rfl rfl (jaRun_go (jaCall_self jaAr jaMt D) [] 39 _ _ _ _ h)
abbrev jm_Sn_compares : jaM := (jf_Sn_compares, jp_Sn_compares, 3)
theorem js_Sn_compares {D : Nat} {kk : Int32 → jaT → Prop} {σ : jaT} {k : Nat} {x1 : Int32} {x2 : Int32} (h :
  vp_in x2 40 ∧ ((¬ ((σ k).1 22 0 (jaIx x2)) = nI 60 ∧ ¬ ((σ k).1 22 0 (jaIx x2)) = nI 62 ∧ True → 
    vp_in x2 40 ∧ ((¬ x1 = ((σ k).1 23 0 (jaIx x2)) → ((nI 0) = 0 ∨ (nI 0) = 1) ∧ kk (nI 0) σ) ∧
    (x1 = ((σ k).1 23 0 (jaIx x2)) → ((nI 1) = 0 ∨ (nI 1) = 1) ∧ kk (nI 1) σ))) ∧
  (((σ k).1 22 0 (jaIx x2)) = nI 60 → 
    vp_in x2 40 ∧ ((((σ k).1 23 0 (jaIx x2)) ≤ x1 → ((nI 0) = 0 ∨ (nI 0) = 1) ∧ kk (nI 0) σ) ∧
    (¬ ((σ k).1 23 0 (jaIx x2)) ≤ x1 → ((nI 1) = 0 ∨ (nI 1) = 1) ∧ kk (nI 1) σ))) ∧
  (((σ k).1 22 0 (jaIx x2)) = nI 62 → 
    vp_in x2 40 ∧ ((x1 ≤ ((σ k).1 23 0 (jaIx x2)) → ((nI 0) = 0 ∨ (nI 0) = 1) ∧ kk (nI 0) σ) ∧
    (¬ x1 ≤ ((σ k).1 23 0 (jaIx x2)) → ((nI 1) = 0 ∨ (nI 1) = 1) ∧ kk (nI 1) σ))) ∧ True)) :
  jaDe (D + 1) jy_Sn_compares [.inr (.inr (20, k, 0)), .inl x1, .inl x2] σ (jaKi kk) :=
  jaCall_intro (mt := jaMt) (y := jy_Sn_compares) (f := jf_Sn_compares) (ps := jp_Sn_compares) (nL := 3) rfl rfl (jaRun_go (jaCall_self jaAr jaMt D) [] 17 _ _ _ _ h)
abbrev jm_St_copyFrom : jaM := (jf_St_copyFrom, jp_St_copyFrom, 3)
def jc_St_copyFrom_1 (D : Nat) (kk : jaT → Prop) (k : Nat) (k1 : Nat) (x2 : Int32) (σ : jaT) : Prop := jaC (jaDe D) jm_St_copyFrom (jaKv kk) 1 [some (.inr (.inr (40, k, 0))), some (.inr (.inr (40, k1, 0))), some (.inl x2)] [] σ
theorem js_St_copyFrom {D : Nat} {kk : jaT → Prop} {σ : jaT} {k : Nat} {k1 : Nat} (h :
  (jaDe D) jy_Wo_copyFrom [.inr (.inr (30, k, 0)), .inr (.inr (30, k1, 0))] σ (jaKv fun σ1 =>
    (jaDe D) jy_Sc_copyFrom [.inr (.inr (54, k, 0)), .inr (.inr (54, k1, 0))] σ1 (jaKv fun σ2 =>
      (jaDe D) jy_En_copyFrom [.inr (.inr (60, k, 0)), .inr (.inr (60, k1, 0))] σ2 (jaKv fun σ3 =>
        jc_St_copyFrom_1 D kk k k1 (nI 0) σ3)))) :
  jaDe (D + 1) jy_St_copyFrom [.inr (.inr (40, k, 0)), .inr (.inr (40, k1, 0))] σ (jaKv kk) :=
  jaCall_intro (mt := jaMt) (y := jy_St_copyFrom) (f := jf_St_copyFrom) (ps := jp_St_copyFrom) (nL := 3) rfl rfl (jaRun_go (jaCall_self jaAr jaMt D) [1] 21 _ _ _ _ h)
theorem jb_St_copyFrom_1 {D : Nat} {kk : jaT → Prop} {σ : jaT} {k : Nat} {k1 : Nat} {x2 : Int32} (h :
  ((nI 3) ≤ x2 → 
    (jaDe D) jy_Ck_copyFrom [.inr (.inr (44, k, 0)), .inr (.inr (44, k1, 0))] σ (jaKv fun σ1 =>
      let σ2 : jaT := jaU σ1 k (jaUI (σ1 k) 40 0 5 ((σ1 k1).1 40 0 5))
      kk σ2)) ∧
  (¬ (nI 3) ≤ x2 → 
    vp_in x2 3 ∧ (vp_in x2 3 ∧ (jaDe D) jy_Cp_copyFrom [.inr (.inr (50, k, (jaIx x2))), .inr (.inr (50, k1, (jaIx x2))), .inl ((σ k).1 60 0 1)] σ (jaKv fun σ3 =>
      jc_St_copyFrom_1 D kk k k1 (x2 + (nI 1)) σ3)))) :
  jc_St_copyFrom_1 D kk k k1 x2 σ :=
  jaRun_go (jaCall_self jaAr jaMt D) [1] 20 _ _ _ _ h
abbrev jm_St_start : jaM := (jf_St_start, jp_St_start, 4)
def jc_St_start_1 (D : Nat) (kk : jaT → Prop) (k : Nat) (k1 : Nat) (x2 : Int32) (u3 : Option jaV) (σ : jaT) : Prop := jaC (jaDe D) jm_St_start (jaKv kk) 1 [some (.inr (.inr (40, k, 0))), some (.inr (.inr (30, k1, 0))), some (.inl x2), u3] [] σ
def jc_St_start_2 (D : Nat) (kk : jaT → Prop) (k : Nat) (k1 : Nat) (x2 : Int32) (x3 : Int32) (σ : jaT) : Prop := jaC (jaDe D) jm_St_start (jaKv kk) 2 [some (.inr (.inr (40, k, 0))), some (.inr (.inr (30, k1, 0))), some (.inl x2), some (.inl x3)] [] σ
theorem js_St_start {D : Nat} {kk : jaT → Prop} {σ : jaT} {k : Nat} {k1 : Nat} (h :
  (jaDe D) jy_Wo_copyFrom [.inr (.inr (30, k, 0)), .inr (.inr (30, k1, 0))] σ (jaKv fun σ1 =>
    let σ2 : jaT := jaU σ1 k (jaUI (σ1 k) 54 0 0 (nI 0))
    let σ3 : jaT := jaU σ2 k (jaUI (σ2 k) 60 0 0 (nI 0))
    let σ4 : jaT := jaU σ3 k (jaUI (σ3 k) 60 0 1 (nI 0))
    jc_St_start_1 D kk k k1 (nI 0) none σ4)) :
  jaDe (D + 1) jy_St_start [.inr (.inr (40, k, 0)), .inr (.inr (30, k1, 0))] σ (jaKv kk) :=
  jaCall_intro (mt := jaMt) (y := jy_St_start) (f := jf_St_start) (ps := jp_St_start) (nL := 4) rfl rfl (jaRun_go (jaCall_self jaAr jaMt D) [1, 2] 22 _ _ _ _ h)
theorem jb_St_start_1 {D : Nat} {kk : jaT → Prop} {σ : jaT} {k : Nat} {k1 : Nat} {x2 : Int32} {u3 : Option jaV} (h :
  ((nI 3) ≤ x2 → 
    (jaDe D) jy_Ck_start [.inr (.inr (44, k, 0)), .inr (.inr (30, k, 0))] σ (jaKv fun σ1 =>
      let σ2 : jaT := jaU σ1 k (jaUI (σ1 k) 40 0 5 (nI 0))
      kk σ2)) ∧
  (¬ (nI 3) ≤ x2 → jc_St_start_2 D kk k k1 x2 (nI 0) σ)) :
  jc_St_start_1 D kk k k1 x2 u3 σ :=
  jaRun_go (jaCall_self jaAr jaMt D) [1, 2] 15 _ _ _ _ h
theorem jb_St_start_2 {D : Nat} {kk : jaT → Prop} {σ : jaT} {k : Nat} {k1 : Nat} {x2 : Int32} {x3 : Int32} (h :
  (((σ k).1 30 0 1) ≤ x3 → jc_St_start_1 D kk k k1 (x2 + (nI 1)) (some (.inl x3)) σ) ∧
  (¬ ((σ k).1 30 0 1) ≤ x3 → 
    vp_in x2 3 ∧ (vp_in x3 10 ∧ (vp_in x3 10 ∧ 
    (let σ1 : jaT := jaU σ k (jaUI (σ k) 51 (jaIx x2) (jaIx x3) ((σ k).1 32 0 (jaIx x3)))
    jc_St_start_2 D kk k k1 x2 (x3 + (nI 1)) σ1))))) :
  jc_St_start_2 D kk k k1 x2 x3 σ :=
  jaRun_go (jaCall_self jaAr jaMt D) [1, 2] 22 _ _ _ _ h
abbrev jm_St_arriveNew : jaM := (jf_St_arriveNew, jp_St_arriveNew, 2)
theorem js_St_arriveNew {D : Nat} {kk : Int32 → jaT → Prop} {σ : jaT} {k : Nat} (h :
  let σ1 : jaT := jaU σ k (jaUI (σ k) 54 0 0 (((σ k).1 54 0 0) + (nI 1)))
  (jaDe D) jy_St_arriveEntry [.inr (.inr (40, k, 0)), .inl ((σ k).1 54 0 0)] σ1 (jaKv fun σ2 =>
    kk ((σ k).1 54 0 0) σ2)) :
  jaDe (D + 1) jy_St_arriveNew [.inr (.inr (40, k, 0))] σ (jaKi kk) :=
  jaCall_intro (mt := jaMt) (y := jy_St_arriveNew) (f := jf_St_arriveNew) (ps := jp_St_arriveNew) (nL := 2) rfl rfl (jaRun_go (jaCall_self jaAr jaMt D) [] 19 _ _ _ _ h)
abbrev jm_St_arriveEntry : jaM := (jf_St_arriveEntry, jp_St_arriveEntry, 6)
def jc_St_arriveEntry_2 (D : Nat) (kk : jaT → Prop) (k : Nat) (x1 : Int32) (x2 : Int32) (x3 : Int32) (x4 : Int32) (σ : jaT) : Prop := jaC (jaDe D) jm_St_arriveEntry (jaKv kk) 2 [some (.inr (.inr (40, k, 0))), some (.inl x1), some (.inl x2), some (.inl x3), some (.inl x4), none] [] σ
theorem js_St_arriveEntry {D : Nat} {kk : jaT → Prop} {σ : jaT} {k : Nat} {x1 : Int32} (h :
  (((σ k).1 60 0 0) < (nI 64) → 
    jc_St_arriveEntry_2 D kk k x1 ((σ k).1 60 0 0) (((σ k).1 60 0 0) * (nI 4)) (nI 0) σ) ∧
  (¬ ((σ k).1 60 0 0) < (nI 64) → kk σ)) :
  jaDe (D + 1) jy_St_arriveEntry [.inr (.inr (40, k, 0)), .inl x1] σ (jaKv kk) :=
  jaCall_intro (mt := jaMt) (y := jy_St_arriveEntry) (f := jf_St_arriveEntry) (ps := jp_St_arriveEntry) (nL := 6) rfl rfl (jaRun_go (jaCall_self jaAr jaMt D) [2] 17 _ _ _ _ h)
set_option maxRecDepth 20000 in
theorem jb_St_arriveEntry_2 {D : Nat} {kk : jaT → Prop} {σ : jaT} {k : Nat} {x1 : Int32} {x2 : Int32} {x3 : Int32} {x4 : Int32} (h :
  vp_in x1 24 ∧ ((((σ k).1 57 0 (jaIx x1)) ≤ x4 → 
    (jaDe D) jy_Sc_writesOf [.inr (.inr (54, k, 0)), .inl x1, .inr (.inr (67, k, 0)), .inl x3] σ (jaKi fun r2 σ1 =>
      (jaDe D) jy_Sc_readsOf [.inr (.inr (54, k, 0)), .inl x1, .inr (.inr (67, k, 0)), .inl x3] σ1 (jaKi fun r4 σ3 =>
        vp_in x2 64 ∧ 
        (let σ5 : jaT := jaU σ3 k (jaUI (σ3 k) 61 0 (jaIx x2) x1)
        vp_in x2 64 ∧ 
        (let σ6 : jaT := jaU σ5 k (jaUI (σ5 k) 63 0 (jaIx x2) r2)
        vp_in x2 64 ∧ 
        (let σ7 : jaT := jaU σ6 k (jaUI (σ6 k) 62 0 (jaIx x2) (r4 &&& (r2 ^^^ (-1 : Int32))))
        (jaDe D) jy_Wo_isWide [.inr (.inr (30, k, 0)), .inl ((r4 &&& (r2 ^^^ (-1 : Int32))) ||| r2)] σ7 (jaKi fun r9 σ8 =>
          vp_in x2 64 ∧ (r9 = 0 ∨ r9 = 1) ∧ 
          (let σ10 : jaT := jaU σ8 k (jaUI (σ8 k) 64 0 (jaIx x2) r9)
          vp_in x2 64 ∧ ((nI 0) = 0 ∨ (nI 0) = 1) ∧ 
          (let σ11 : jaT := jaU σ10 k (jaUI (σ10 k) 65 0 (jaIx x2) (nI 0))
          vp_in x2 64 ∧ 
          (let σ12 : jaT := jaU σ11 k (jaUI (σ11 k) 66 0 (jaIx x2) (-1 : Int32))
          let σ13 : jaT := jaU σ12 k (jaUI (σ12 k) 60 0 0 (((σ12 k).1 60 0 0) + (nI 1)))
          kk σ13)))))))))) ∧
  (¬ ((σ k).1 57 0 (jaIx x1)) ≤ x4 → 
    vp_in (nI 0) 3 ∧ ((jaDe D) jy_Sc_keyAt [.inr (.inr (54, k, 0)), .inl x1, .inl x4, .inr (.inr (51, k, (jaIx (nI 0)))), .inl ((σ k).1 30 0 1)] σ (jaKi fun r15 σ14 =>
      vp_in (x3 + x4) 256 ∧ 
      (let σ16 : jaT := jaU σ14 k (jaUI (σ14 k) 67 0 (jaIx (x3 + x4)) r15)
      jc_St_arriveEntry_2 D kk k x1 x2 x3 (x4 + (nI 1)) σ16)))))) :
  jc_St_arriveEntry_2 D kk k x1 x2 x3 x4 σ :=
  jaRun_go (jaCall_self jaAr jaMt D) [2] 81 _ _ _ _ h
abbrev jm_St_siteOf : jaM := (jf_St_siteOf, jp_St_siteOf, 2)
theorem js_St_siteOf {D : Nat} {kk : Int32 → jaT → Prop} {σ : jaT} {k : Nat} {x1 : Int32} (h :
  vp_in x1 64 ∧ (vp_in ((σ k).1 61 0 (jaIx x1)) 24 ∧ kk ((σ k).1 55 0 (jaIx ((σ k).1 61 0 (jaIx x1)))) σ)) :
  jaDe (D + 1) jy_St_siteOf [.inr (.inr (40, k, 0)), .inl x1] σ (jaKi kk) :=
  jaCall_intro (mt := jaMt) (y := jy_St_siteOf) (f := jf_St_siteOf) (ps := jp_St_siteOf) (nL := 2) rfl rfl (jaRun_go (jaCall_self jaAr jaMt D) [] 13 _ _ _ _ h)
abbrev jm_St_isArrivedAt : jaM := (jf_St_isArrivedAt, jp_St_isArrivedAt, 3)
theorem js_St_isArrivedAt {D : Nat} {kk : Int32 → jaT → Prop} {σ : jaT} {k : Nat} {x1 : Int32} {x2 : Int32} (h :
  vp_in x1 64 ∧ ((¬ ((σ k).1 66 0 (jaIx x1)) = (-1 : Int32) → ((nI 0) = 0 ∨ (nI 0) = 1) ∧ kk (nI 0) σ) ∧
  (((σ k).1 66 0 (jaIx x1)) = (-1 : Int32) → 
    (jaDe D) jy_St_siteOf [.inr (.inr (40, k, 0)), .inl x1] σ (jaKi fun r2 σ1 =>
      (¬ r2 = x2 → ((nI 0) = 0 ∨ (nI 0) = 1) ∧ kk (nI 0) σ1) ∧
      (r2 = x2 → ((nI 1) = 0 ∨ (nI 1) = 1) ∧ kk (nI 1) σ1))))) :
  jaDe (D + 1) jy_St_isArrivedAt [.inr (.inr (40, k, 0)), .inl x1, .inl x2] σ (jaKi kk) :=
  jaCall_intro (mt := jaMt) (y := jy_St_isArrivedAt) (f := jf_St_isArrivedAt) (ps := jp_St_isArrivedAt) (nL := 3) rfl rfl (jaRun_go (jaCall_self jaAr jaMt D) [] 18 _ _ _ _ h)
abbrev jm_St_endEpoch : jaM := (jf_St_endEpoch, jp_St_endEpoch, 3)
def jc_St_endEpoch_1 (D : Nat) (kk : jaT → Prop) (k : Nat) (x1 : Int32) (u2 : Option jaV) (σ : jaT) : Prop := jaC (jaDe D) jm_St_endEpoch (jaKv kk) 1 [some (.inr (.inr (40, k, 0))), some (.inl x1), u2] [] σ
def jc_St_endEpoch_2 (D : Nat) (kk : jaT → Prop) (k : Nat) (x1 : Int32) (x2 : Int32) (σ : jaT) : Prop := jaC (jaDe D) jm_St_endEpoch (jaKv kk) 2 [some (.inr (.inr (40, k, 0))), some (.inl x1), some (.inl x2)] [] σ
theorem js_St_endEpoch {D : Nat} {kk : jaT → Prop} {σ : jaT} {k : Nat} (h :
  jc_St_endEpoch_1 D kk k (nI 0) none σ) :
  jaDe (D + 1) jy_St_endEpoch [.inr (.inr (40, k, 0))] σ (jaKv kk) :=
  jaCall_intro (mt := jaMt) (y := jy_St_endEpoch) (f := jf_St_endEpoch) (ps := jp_St_endEpoch) (nL := 3) rfl rfl (jaRun_go (jaCall_self jaAr jaMt D) [1, 2] 6 _ _ _ _ h)
theorem jb_St_endEpoch_1 {D : Nat} {kk : jaT → Prop} {σ : jaT} {k : Nat} {x1 : Int32} {u2 : Option jaV} (h :
  (((σ k).1 30 0 0) ≤ x1 → kk σ) ∧
  (¬ ((σ k).1 30 0 0) ≤ x1 → jc_St_endEpoch_2 D kk k x1 (nI 0) σ)) :
  jc_St_endEpoch_1 D kk k x1 u2 σ :=
  jaRun_go (jaCall_self jaAr jaMt D) [1, 2] 11 _ _ _ _ h
theorem jb_St_endEpoch_2 {D : Nat} {kk : jaT → Prop} {σ : jaT} {k : Nat} {x1 : Int32} {x2 : Int32} (h :
  (((σ k).1 60 0 0) ≤ x2 → jc_St_endEpoch_1 D kk k (x1 + (nI 1)) (some (.inl x2)) σ) ∧
  (¬ ((σ k).1 60 0 0) ≤ x2 → 
    (jaDe D) jy_St_isArrivedAt [.inr (.inr (40, k, 0)), .inl x2, .inl x1] σ (jaKi fun r2 σ1 =>
      (r2 = 0 → jc_St_endEpoch_2 D kk k x1 (x2 + (nI 1)) σ1) ∧
      (¬ r2 = 0 → 
        ((nI 40) ≤ ((σ1 k).1 60 0 1) → jc_St_endEpoch_2 D kk k x1 (x2 + (nI 1)) σ1) ∧
        (¬ (nI 40) ≤ ((σ1 k).1 60 0 1) → 
          (jaDe D) jy_St_orderEntry [.inr (.inr (40, k, 0)), .inl x2] σ1 (jaKv fun σ3 =>
            jc_St_endEpoch_2 D kk k x1 (x2 + (nI 1)) σ3)))))) :
  jc_St_endEpoch_2 D kk k x1 x2 σ :=
  jaRun_go (jaCall_self jaAr jaMt D) [1, 2] 24 _ _ _ _ h
abbrev jm_St_orderEntry : jaM := (jf_St_orderEntry, jp_St_orderEntry, 4)
def jc_St_orderEntry_1 (D : Nat) (kk : jaT → Prop) (k : Nat) (x1 : Int32) (x2 : Int32) (x3 : Int32) (σ : jaT) : Prop := jaC (jaDe D) jm_St_orderEntry (jaKv kk) 1 [some (.inr (.inr (40, k, 0))), some (.inl x1), some (.inl x2), some (.inl x3)] [] σ
theorem js_St_orderEntry {D : Nat} {kk : jaT → Prop} {σ : jaT} {k : Nat} {x1 : Int32} (h :
  vp_in ((σ k).1 60 0 1) 40 ∧ 
  (let σ1 : jaT := jaU σ k (jaUI (σ k) 68 0 (jaIx ((σ k).1 60 0 1)) x1)
  vp_in x1 64 ∧ 
  (let σ2 : jaT := jaU σ1 k (jaUI (σ1 k) 66 0 (jaIx x1) ((σ k).1 60 0 1))
  jc_St_orderEntry_1 D kk k x1 ((σ k).1 60 0 1) (nI 0) σ2))) :
  jaDe (D + 1) jy_St_orderEntry [.inr (.inr (40, k, 0)), .inl x1] σ (jaKv kk) :=
  jaCall_intro (mt := jaMt) (y := jy_St_orderEntry) (f := jf_St_orderEntry) (ps := jp_St_orderEntry) (nL := 4) rfl rfl (jaRun_go (jaCall_self jaAr jaMt D) [1] 22 _ _ _ _ h)
theorem jb_St_orderEntry_1 {D : Nat} {kk : jaT → Prop} {σ : jaT} {k : Nat} {x1 : Int32} {x2 : Int32} {x3 : Int32} (h :
  (((σ k).1 30 0 2) ≤ x3 → 
    let σ1 : jaT := jaU σ k (jaUI (σ k) 60 0 1 (((σ k).1 60 0 1) + (nI 1)))
    kk σ1) ∧
  (¬ ((σ k).1 30 0 2) ≤ x3 → 
    vp_in x3 3 ∧ (vp_in x2 40 ∧ 
    (let σ2 : jaT := jaU σ k (jaUI (σ k) 52 (jaIx x3) (jaIx x2) (nI 0))
    jc_St_orderEntry_1 D kk k x1 x2 (x3 + (nI 1)) σ2)))) :
  jc_St_orderEntry_1 D kk k x1 x2 x3 σ :=
  jaRun_go (jaCall_self jaAr jaMt D) [1] 18 _ _ _ _ h
abbrev jm_St_readyPlaces : jaM := (jf_St_readyPlaces, jp_St_readyPlaces, 9)
def jc_St_readyPlaces_1 (D : Nat) (kk : Int64 → jaT → Prop) (k : Nat) (x1 : Int32) (x2 : Int64) (x4 : Int32) (x5 : Int32) (x6 : Int32) (u7 : Option jaV) (u8 : Option jaV) (σ : jaT) : Prop := jaC (jaDe D) jm_St_readyPlaces (jaKl kk) 1 [some (.inr (.inr (40, k, 0))), some (.inl x1), some (.inr (.inl x2)), none, some (.inl x4), some (.inl x5), some (.inl x6), u7, u8] [] σ
theorem js_St_readyPlaces {D : Nat} {kk : Int64 → jaT → Prop} {σ : jaT} {k : Nat} {x1 : Int32} (h :
  jc_St_readyPlaces_1 D kk k x1 (Int64.ofNat 0) (nI 0) (nI 0) (nI 0) none none σ) :
  jaDe (D + 1) jy_St_readyPlaces [.inr (.inr (40, k, 0)), .inl x1] σ (jaKl kk) :=
  jaCall_intro (mt := jaMt) (y := jy_St_readyPlaces) (f := jf_St_readyPlaces) (ps := jp_St_readyPlaces) (nL := 9) rfl rfl (jaRun_go (jaCall_self jaAr jaMt D) [1] 12 _ _ _ _ h)
set_option maxRecDepth 20000 in
theorem jb_St_readyPlaces_1 {D : Nat} {kk : Int64 → jaT → Prop} {σ : jaT} {k : Nat} {x1 : Int32} {x2 : Int64} {x4 : Int32} {x5 : Int32} {x6 : Int32} {u7 : Option jaV} {u8 : Option jaV} (h :
  (((σ k).1 60 0 1) ≤ x6 → kk x2 σ) ∧
  (¬ ((σ k).1 60 0 1) ≤ x6 → 
    vp_in x1 3 ∧ ((jaDe D) jy_Cp_isExecuted [.inr (.inr (50, k, (jaIx x1))), .inl x6] σ (jaKi fun r2 σ1 =>
      (r2 = 0 → 
        vp_in x6 40 ∧ (vp_in ((σ1 k).1 68 0 (jaIx x6)) 64 ∧ ((¬ (((σ1 k).1 62 0 (jaIx ((σ1 k).1 68 0 (jaIx x6)))) &&& x5) = 0 → 
          ((nI 0) = 0 → 
            vp_in ((σ1 k).1 68 0 (jaIx x6)) 64 ∧ (vp_in ((σ1 k).1 68 0 (jaIx x6)) 64 ∧ jc_St_readyPlaces_1 D kk k x1 x2 (x4 ||| ((σ1 k).1 62 0 (jaIx ((σ1 k).1 68 0 (jaIx x6))))) (x5 ||| ((σ1 k).1 63 0 (jaIx ((σ1 k).1 68 0 (jaIx x6))))) (x6 + (nI 1)) (some (.inl ((σ1 k).1 68 0 (jaIx x6)))) (some (.inl (nI 0))) σ1)) ∧
          (¬ (nI 0) = 0 → 
            vp_in x1 3 ∧ (vp_in x6 40 ∧ ((¬ ((σ1 k).1 52 (jaIx x1) (jaIx x6)) = 0 → 
              vp_in ((σ1 k).1 68 0 (jaIx x6)) 64 ∧ (vp_in ((σ1 k).1 68 0 (jaIx x6)) 64 ∧ jc_St_readyPlaces_1 D kk k x1 x2 (x4 ||| ((σ1 k).1 62 0 (jaIx ((σ1 k).1 68 0 (jaIx x6))))) (x5 ||| ((σ1 k).1 63 0 (jaIx ((σ1 k).1 68 0 (jaIx x6))))) (x6 + (nI 1)) (some (.inl ((σ1 k).1 68 0 (jaIx x6)))) (some (.inl (nI 0))) σ1)) ∧
            (((σ1 k).1 52 (jaIx x1) (jaIx x6)) = 0 → 
              vp_in ((σ1 k).1 68 0 (jaIx x6)) 64 ∧ (vp_in ((σ1 k).1 68 0 (jaIx x6)) 64 ∧ jc_St_readyPlaces_1 D kk k x1 (x2 ||| ((Int64.ofNat 1) <<< (Int32.toInt64 x6 &&& 63))) (x4 ||| ((σ1 k).1 62 0 (jaIx ((σ1 k).1 68 0 (jaIx x6))))) (x5 ||| ((σ1 k).1 63 0 (jaIx ((σ1 k).1 68 0 (jaIx x6))))) (x6 + (nI 1)) (some (.inl ((σ1 k).1 68 0 (jaIx x6)))) (some (.inl (nI 0))) σ1)))))) ∧
        ((((σ1 k).1 62 0 (jaIx ((σ1 k).1 68 0 (jaIx x6)))) &&& x5) = 0 → 
          vp_in ((σ1 k).1 68 0 (jaIx x6)) 64 ∧ ((¬ (((σ1 k).1 63 0 (jaIx ((σ1 k).1 68 0 (jaIx x6)))) &&& (x4 ||| x5)) = 0 → 
            ((nI 0) = 0 → 
              vp_in ((σ1 k).1 68 0 (jaIx x6)) 64 ∧ (vp_in ((σ1 k).1 68 0 (jaIx x6)) 64 ∧ jc_St_readyPlaces_1 D kk k x1 x2 (x4 ||| ((σ1 k).1 62 0 (jaIx ((σ1 k).1 68 0 (jaIx x6))))) (x5 ||| ((σ1 k).1 63 0 (jaIx ((σ1 k).1 68 0 (jaIx x6))))) (x6 + (nI 1)) (some (.inl ((σ1 k).1 68 0 (jaIx x6)))) (some (.inl (nI 0))) σ1)) ∧
            (¬ (nI 0) = 0 → 
              vp_in x1 3 ∧ (vp_in x6 40 ∧ ((¬ ((σ1 k).1 52 (jaIx x1) (jaIx x6)) = 0 → 
                vp_in ((σ1 k).1 68 0 (jaIx x6)) 64 ∧ (vp_in ((σ1 k).1 68 0 (jaIx x6)) 64 ∧ jc_St_readyPlaces_1 D kk k x1 x2 (x4 ||| ((σ1 k).1 62 0 (jaIx ((σ1 k).1 68 0 (jaIx x6))))) (x5 ||| ((σ1 k).1 63 0 (jaIx ((σ1 k).1 68 0 (jaIx x6))))) (x6 + (nI 1)) (some (.inl ((σ1 k).1 68 0 (jaIx x6)))) (some (.inl (nI 0))) σ1)) ∧
              (((σ1 k).1 52 (jaIx x1) (jaIx x6)) = 0 → 
                vp_in ((σ1 k).1 68 0 (jaIx x6)) 64 ∧ (vp_in ((σ1 k).1 68 0 (jaIx x6)) 64 ∧ jc_St_readyPlaces_1 D kk k x1 (x2 ||| ((Int64.ofNat 1) <<< (Int32.toInt64 x6 &&& 63))) (x4 ||| ((σ1 k).1 62 0 (jaIx ((σ1 k).1 68 0 (jaIx x6))))) (x5 ||| ((σ1 k).1 63 0 (jaIx ((σ1 k).1 68 0 (jaIx x6))))) (x6 + (nI 1)) (some (.inl ((σ1 k).1 68 0 (jaIx x6)))) (some (.inl (nI 0))) σ1)))))) ∧
          ((((σ1 k).1 63 0 (jaIx ((σ1 k).1 68 0 (jaIx x6)))) &&& (x4 ||| x5)) = 0 → 
            ((nI 1) = 0 → 
              vp_in ((σ1 k).1 68 0 (jaIx x6)) 64 ∧ (vp_in ((σ1 k).1 68 0 (jaIx x6)) 64 ∧ jc_St_readyPlaces_1 D kk k x1 x2 (x4 ||| ((σ1 k).1 62 0 (jaIx ((σ1 k).1 68 0 (jaIx x6))))) (x5 ||| ((σ1 k).1 63 0 (jaIx ((σ1 k).1 68 0 (jaIx x6))))) (x6 + (nI 1)) (some (.inl ((σ1 k).1 68 0 (jaIx x6)))) (some (.inl (nI 1))) σ1)) ∧
            (¬ (nI 1) = 0 → 
              vp_in x1 3 ∧ (vp_in x6 40 ∧ ((¬ ((σ1 k).1 52 (jaIx x1) (jaIx x6)) = 0 → 
                vp_in ((σ1 k).1 68 0 (jaIx x6)) 64 ∧ (vp_in ((σ1 k).1 68 0 (jaIx x6)) 64 ∧ jc_St_readyPlaces_1 D kk k x1 x2 (x4 ||| ((σ1 k).1 62 0 (jaIx ((σ1 k).1 68 0 (jaIx x6))))) (x5 ||| ((σ1 k).1 63 0 (jaIx ((σ1 k).1 68 0 (jaIx x6))))) (x6 + (nI 1)) (some (.inl ((σ1 k).1 68 0 (jaIx x6)))) (some (.inl (nI 1))) σ1)) ∧
              (((σ1 k).1 52 (jaIx x1) (jaIx x6)) = 0 → 
                vp_in ((σ1 k).1 68 0 (jaIx x6)) 64 ∧ (vp_in ((σ1 k).1 68 0 (jaIx x6)) 64 ∧ jc_St_readyPlaces_1 D kk k x1 (x2 ||| ((Int64.ofNat 1) <<< (Int32.toInt64 x6 &&& 63))) (x4 ||| ((σ1 k).1 62 0 (jaIx ((σ1 k).1 68 0 (jaIx x6))))) (x5 ||| ((σ1 k).1 63 0 (jaIx ((σ1 k).1 68 0 (jaIx x6))))) (x6 + (nI 1)) (some (.inl ((σ1 k).1 68 0 (jaIx x6)))) (some (.inl (nI 1))) σ1))))))))))) ∧
      (¬ r2 = 0 → 
        jc_St_readyPlaces_1 D kk k x1 x2 x4 x5 (x6 + (nI 1)) u7 u8 σ1))))) :
  jc_St_readyPlaces_1 D kk k x1 x2 x4 x5 x6 u7 u8 σ :=
  jaRun_go (jaCall_self jaAr jaMt D) [1] 78 _ _ _ _ h
abbrev jm_St_whoAsks : jaM := (jf_St_whoAsks, jp_St_whoAsks, 9)
def jc_St_whoAsks_1 (D : Nat) (kk : Int32 → jaT → Prop) (k : Nat) (x1 : Int32) (x2 : Int32) (x3 : Int32) (x4 : Int32) (x5 : Int32) (u6 : Option jaV) (u7 : Option jaV) (u8 : Option jaV) (σ : jaT) : Prop := jaC (jaDe D) jm_St_whoAsks (jaKi kk) 1 [some (.inr (.inr (40, k, 0))), some (.inl x1), some (.inl x2), some (.inl x3), some (.inl x4), some (.inl x5), u6, u7, u8] [] σ
theorem js_St_whoAsks {D : Nat} {kk : Int32 → jaT → Prop} {σ : jaT} {k : Nat} {x1 : Int32} {x2 : Int32} {x3 : Int32} (h :
  jc_St_whoAsks_1 D kk k x1 x2 x3 (nI 0) (nI 0) none none none σ) :
  jaDe (D + 1) jy_St_whoAsks [.inr (.inr (40, k, 0)), .inl x1, .inl x2, .inl x3] σ (jaKi kk) :=
  jaCall_intro (mt := jaMt) (y := jy_St_whoAsks) (f := jf_St_whoAsks) (ps := jp_St_whoAsks) (nL := 9) rfl rfl (jaRun_go (jaCall_self jaAr jaMt D) [1] 8 _ _ _ _ h)
set_option maxRecDepth 20000 in
theorem jb_St_whoAsks_1 {D : Nat} {kk : Int32 → jaT → Prop} {σ : jaT} {k : Nat} {x1 : Int32} {x2 : Int32} {x3 : Int32} {x4 : Int32} {x5 : Int32} {u6 : Option jaV} {u7 : Option jaV} {u8 : Option jaV} (h :
  (((σ k).1 60 0 1) ≤ x5 → kk (-1 : Int32) σ) ∧
  (¬ ((σ k).1 60 0 1) ≤ x5 → 
    vp_in x5 40 ∧ (vp_in ((σ k).1 68 0 (jaIx x5)) 64 ∧ (vp_in ((σ k).1 68 0 (jaIx x5)) 64 ∧ ((((((Int32.toUInt32 ((σ k).1 63 0 (jaIx ((σ k).1 68 0 (jaIx x5)))) >>> (Int32.toUInt32 x2 &&& Int32.toUInt32 31)).toInt32) &&& (nI 1)) + (((Int32.toUInt32 ((σ k).1 62 0 (jaIx ((σ k).1 68 0 (jaIx x5)))) >>> (Int32.toUInt32 x2 &&& Int32.toUInt32 31)).toInt32) &&& (nI 1))) ≤ 0 → 
      jc_St_whoAsks_1 D kk k x1 x2 x3 x4 (x5 + (nI 1)) (some (.inl ((σ k).1 68 0 (jaIx x5)))) (some (.inl (((Int32.toUInt32 ((σ k).1 63 0 (jaIx ((σ k).1 68 0 (jaIx x5)))) >>> (Int32.toUInt32 x2 &&& Int32.toUInt32 31)).toInt32) &&& (nI 1)))) (some (.inl (((Int32.toUInt32 ((σ k).1 62 0 (jaIx ((σ k).1 68 0 (jaIx x5)))) >>> (Int32.toUInt32 x2 &&& Int32.toUInt32 31)).toInt32) &&& (nI 1)))) σ) ∧
    (¬ ((((Int32.toUInt32 ((σ k).1 63 0 (jaIx ((σ k).1 68 0 (jaIx x5)))) >>> (Int32.toUInt32 x2 &&& Int32.toUInt32 31)).toInt32) &&& (nI 1)) + (((Int32.toUInt32 ((σ k).1 62 0 (jaIx ((σ k).1 68 0 (jaIx x5)))) >>> (Int32.toUInt32 x2 &&& Int32.toUInt32 31)).toInt32) &&& (nI 1))) ≤ 0 → 
      vp_in x1 3 ∧ ((jaDe D) jy_Cp_isExecuted [.inr (.inr (50, k, (jaIx x1))), .inl x5] σ (jaKi fun r2 σ1 =>
        (¬ r2 = 0 → 
          jc_St_whoAsks_1 D kk k x1 x2 x3 x4 (x5 + (nI 1)) (some (.inl ((σ k).1 68 0 (jaIx x5)))) (some (.inl (((Int32.toUInt32 ((σ k).1 63 0 (jaIx ((σ k).1 68 0 (jaIx x5)))) >>> (Int32.toUInt32 x2 &&& Int32.toUInt32 31)).toInt32) &&& (nI 1)))) (some (.inl (((Int32.toUInt32 ((σ k).1 62 0 (jaIx ((σ k).1 68 0 (jaIx x5)))) >>> (Int32.toUInt32 x2 &&& Int32.toUInt32 31)).toInt32) &&& (nI 1)))) σ1) ∧
        (r2 = 0 → 
          (¬ x4 = x3 → 
            jc_St_whoAsks_1 D kk k x1 x2 x3 (x4 + (nI 1)) (x5 + (nI 1)) (some (.inl ((σ k).1 68 0 (jaIx x5)))) (some (.inl (((Int32.toUInt32 ((σ k).1 63 0 (jaIx ((σ k).1 68 0 (jaIx x5)))) >>> (Int32.toUInt32 x2 &&& Int32.toUInt32 31)).toInt32) &&& (nI 1)))) (some (.inl (((Int32.toUInt32 ((σ k).1 62 0 (jaIx ((σ k).1 68 0 (jaIx x5)))) >>> (Int32.toUInt32 x2 &&& Int32.toUInt32 31)).toInt32) &&& (nI 1)))) σ1) ∧
          (x4 = x3 → 
            kk (((nI 2) * x5) + (((Int32.toUInt32 ((σ k).1 63 0 (jaIx ((σ k).1 68 0 (jaIx x5)))) >>> (Int32.toUInt32 x2 &&& Int32.toUInt32 31)).toInt32) &&& (nI 1))) σ1)))))))))) :
  jc_St_whoAsks_1 D kk k x1 x2 x3 x4 x5 u6 u7 u8 σ :=
  jaRun_go (jaCall_self jaAr jaMt D) [1] 54 _ _ _ _ h
abbrev jm_St_countAwaited : jaM := (jf_St_countAwaited, jp_St_countAwaited, 5)
def jc_St_countAwaited_2 (D : Nat) (kk : Int32 → jaT → Prop) (k : Nat) (x1 : Int32) (x2 : Int32) (x3 : Int32) (x4 : Int32) (σ : jaT) : Prop := jaC (jaDe D) jm_St_countAwaited (jaKi kk) 2 [some (.inr (.inr (40, k, 0))), some (.inl x1), some (.inl x2), some (.inl x3), some (.inl x4)] [] σ
theorem js_St_countAwaited {D : Nat} {kk : Int32 → jaT → Prop} {σ : jaT} {k : Nat} {x1 : Int32} {x2 : Int32} (h :
  vp_in x1 3 ∧ (vp_in x2 40 ∧ ((((σ k).1 52 (jaIx x1) (jaIx x2)) = 0 → jc_St_countAwaited_2 D kk k x1 x2 (nI 0) (nI 0) σ) ∧
  (¬ ((σ k).1 52 (jaIx x1) (jaIx x2)) = 0 → kk (nI 0) σ)))) :
  jaDe (D + 1) jy_St_countAwaited [.inr (.inr (40, k, 0)), .inl x1, .inl x2] σ (jaKi kk) :=
  jaCall_intro (mt := jaMt) (y := jy_St_countAwaited) (f := jf_St_countAwaited) (ps := jp_St_countAwaited) (nL := 5) rfl rfl (jaRun_go (jaCall_self jaAr jaMt D) [2] 16 _ _ _ _ h)
theorem jb_St_countAwaited_2 {D : Nat} {kk : Int32 → jaT → Prop} {σ : jaT} {k : Nat} {x1 : Int32} {x2 : Int32} {x3 : Int32} {x4 : Int32} (h :
  (x2 ≤ x4 → kk x3 σ) ∧
  (¬ x2 ≤ x4 → 
    vp_in x1 3 ∧ ((jaDe D) jy_Cp_isExecuted [.inr (.inr (50, k, (jaIx x1))), .inl x4] σ (jaKi fun r2 σ1 =>
      (¬ r2 = 0 → jc_St_countAwaited_2 D kk k x1 x2 x3 (x4 + (nI 1)) σ1) ∧
      (r2 = 0 → 
        (jaDe D) jy_En_conflict [.inr (.inr (60, k, 0)), .inl x4, .inl x2] σ1 (jaKi fun r4 σ3 =>
          (r4 = 0 → jc_St_countAwaited_2 D kk k x1 x2 x3 (x4 + (nI 1)) σ3) ∧
          (¬ r4 = 0 → 
            jc_St_countAwaited_2 D kk k x1 x2 (x3 + (nI 1)) (x4 + (nI 1)) σ3))))))) :
  jc_St_countAwaited_2 D kk k x1 x2 x3 x4 σ :=
  jaRun_go (jaCall_self jaAr jaMt D) [2] 23 _ _ _ _ h
abbrev jm_St_ticksLeft : jaM := (jf_St_ticksLeft, jp_St_ticksLeft, 1)
theorem js_St_ticksLeft {D : Nat} {kk : Int32 → jaT → Prop} {σ : jaT} {k : Nat} (h :
  (jaDe D) jy_JM_max [.inl (nI 0), .inl ((nI 1000) - ((σ k).1 40 0 5))] σ (jaKi fun r2 σ1 =>
    kk r2 σ1)) :
  jaDe (D + 1) jy_St_ticksLeft [.inr (.inr (40, k, 0))] σ (jaKi kk) :=
  jaCall_intro (mt := jaMt) (y := jy_St_ticksLeft) (f := jf_St_ticksLeft) (ps := jp_St_ticksLeft) (nL := 1) rfl rfl (jaRun_go (jaCall_self jaAr jaMt D) [] 10 _ _ _ _ h)
abbrev jm_St_passTick : jaM := (jf_St_passTick, jp_St_passTick, 2)
def jc_St_passTick_1 (D : Nat) (kk : jaT → Prop) (k : Nat) (x1 : Int32) (σ : jaT) : Prop := jaC (jaDe D) jm_St_passTick (jaKv kk) 1 [some (.inr (.inr (40, k, 0))), some (.inl x1)] [] σ
theorem js_St_passTick {D : Nat} {kk : jaT → Prop} {σ : jaT} {k : Nat} (h :
  jc_St_passTick_1 D kk k (nI 0) σ) :
  jaDe (D + 1) jy_St_passTick [.inr (.inr (40, k, 0))] σ (jaKv kk) :=
  jaCall_intro (mt := jaMt) (y := jy_St_passTick) (f := jf_St_passTick) (ps := jp_St_passTick) (nL := 2) rfl rfl (jaRun_go (jaCall_self jaAr jaMt D) [1] 6 _ _ _ _ h)
set_option maxRecDepth 20000 in
theorem jb_St_passTick_1 {D : Nat} {kk : jaT → Prop} {σ : jaT} {k : Nat} {x1 : Int32} (h :
  (((σ k).1 30 0 2) ≤ x1 → 
    (((σ k).1 44 0 0) = 0 → 
      (((σ k).1 30 0 3) ≤ 0 → 
        let σ1 : jaT := jaU σ k (jaUI (σ k) 40 0 5 (((σ k).1 40 0 5) + (nI 1)))
        kk σ1) ∧
      (¬ ((σ k).1 30 0 3) ≤ 0 → 
        ¬ ((σ k).1 30 0 3) = 0 ∧ ((¬ ((((σ k).1 40 0 5) + (nI 1)) - (((σ k).1 40 0 5) + (nI 1)) / ((σ k).1 30 0 3) * ((σ k).1 30 0 3)) = 0 → 
          let σ2 : jaT := jaU σ k (jaUI (σ k) 40 0 5 (((σ k).1 40 0 5) + (nI 1)))
          kk σ2) ∧
        (((((σ k).1 40 0 5) + (nI 1)) - (((σ k).1 40 0 5) + (nI 1)) / ((σ k).1 30 0 3) * ((σ k).1 30 0 3)) = 0 → 
          (jaDe D) jy_St_endEpoch [.inr (.inr (40, k, 0))] σ (jaKv fun σ3 =>
            let σ4 : jaT := jaU σ3 k (jaUI (σ3 k) 40 0 5 (((σ3 k).1 40 0 5) + (nI 1)))
            kk σ4))))) ∧
    (¬ ((σ k).1 44 0 0) = 0 → 
      vp_in (nI 0) 3 ∧ ((jaDe D) jy_Cp_isExecutedAhead [.inr (.inr (50, k, (jaIx (nI 0)))), .inl ((σ k).1 44 0 1)] σ (jaKi fun r6 σ5 =>
        (r6 = 0 → 
          (((σ5 k).1 30 0 3) ≤ 0 → 
            let σ7 : jaT := jaU σ5 k (jaUI (σ5 k) 40 0 5 (((σ5 k).1 40 0 5) + (nI 1)))
            kk σ7) ∧
          (¬ ((σ5 k).1 30 0 3) ≤ 0 → 
            ¬ ((σ5 k).1 30 0 3) = 0 ∧ ((¬ ((((σ5 k).1 40 0 5) + (nI 1)) - (((σ5 k).1 40 0 5) + (nI 1)) / ((σ5 k).1 30 0 3) * ((σ5 k).1 30 0 3)) = 0 → 
              let σ8 : jaT := jaU σ5 k (jaUI (σ5 k) 40 0 5 (((σ5 k).1 40 0 5) + (nI 1)))
              kk σ8) ∧
            (((((σ5 k).1 40 0 5) + (nI 1)) - (((σ5 k).1 40 0 5) + (nI 1)) / ((σ5 k).1 30 0 3) * ((σ5 k).1 30 0 3)) = 0 → 
              (jaDe D) jy_St_endEpoch [.inr (.inr (40, k, 0))] σ5 (jaKv fun σ9 =>
                let σ10 : jaT := jaU σ9 k (jaUI (σ9 k) 40 0 5 (((σ9 k).1 40 0 5) + (nI 1)))
                kk σ10))))) ∧
        (¬ r6 = 0 → 
          (jaDe D) jy_St_takeCheckKey [.inr (.inr (40, k, 0))] σ5 (jaKv fun σ11 =>
            (((σ11 k).1 30 0 3) ≤ 0 → 
              let σ12 : jaT := jaU σ11 k (jaUI (σ11 k) 40 0 5 (((σ11 k).1 40 0 5) + (nI 1)))
              kk σ12) ∧
            (¬ ((σ11 k).1 30 0 3) ≤ 0 → 
              ¬ ((σ11 k).1 30 0 3) = 0 ∧ ((¬ ((((σ11 k).1 40 0 5) + (nI 1)) - (((σ11 k).1 40 0 5) + (nI 1)) / ((σ11 k).1 30 0 3) * ((σ11 k).1 30 0 3)) = 0 → 
                let σ13 : jaT := jaU σ11 k (jaUI (σ11 k) 40 0 5 (((σ11 k).1 40 0 5) + (nI 1)))
                kk σ13) ∧
              (((((σ11 k).1 40 0 5) + (nI 1)) - (((σ11 k).1 40 0 5) + (nI 1)) / ((σ11 k).1 30 0 3) * ((σ11 k).1 30 0 3)) = 0 → 
                (jaDe D) jy_St_endEpoch [.inr (.inr (40, k, 0))] σ11 (jaKv fun σ14 =>
                  let σ15 : jaT := jaU σ14 k (jaUI (σ14 k) 40 0 5 (((σ14 k).1 40 0 5) + (nI 1)))
                  kk σ15)))))))))) ∧
  (¬ ((σ k).1 30 0 2) ≤ x1 → 
    (jaDe D) jy_St_passGoing [.inr (.inr (40, k, 0)), .inl x1] σ (jaKv fun σ16 =>
      (jaDe D) jy_St_takeReady [.inr (.inr (40, k, 0)), .inl x1] σ16 (jaKv fun σ17 =>
        jc_St_passTick_1 D kk k (x1 + (nI 1)) σ17)))) :
  jc_St_passTick_1 D kk k x1 σ :=
  jaRun_go (jaCall_self jaAr jaMt D) [1] 47 _ _ _ _ h
abbrev jm_St_passGoing : jaM := (jf_St_passGoing, jp_St_passGoing, 3)
def jc_St_passGoing_1 (D : Nat) (kk : jaT → Prop) (k : Nat) (x1 : Int32) (x2 : Int32) (σ : jaT) : Prop := jaC (jaDe D) jm_St_passGoing (jaKv kk) 1 [some (.inr (.inr (40, k, 0))), some (.inl x1), some (.inl x2)] [] σ
theorem js_St_passGoing {D : Nat} {kk : jaT → Prop} {σ : jaT} {k : Nat} {x1 : Int32} (h :
  jc_St_passGoing_1 D kk k x1 (nI 0) σ) :
  jaDe (D + 1) jy_St_passGoing [.inr (.inr (40, k, 0)), .inl x1] σ (jaKv kk) :=
  jaCall_intro (mt := jaMt) (y := jy_St_passGoing) (f := jf_St_passGoing) (ps := jp_St_passGoing) (nL := 3) rfl rfl (jaRun_go (jaCall_self jaAr jaMt D) [1] 6 _ _ _ _ h)
set_option maxRecDepth 20000 in
theorem jb_St_passGoing_1 {D : Nat} {kk : jaT → Prop} {σ : jaT} {k : Nat} {x1 : Int32} {x2 : Int32} (h :
  (((σ k).1 60 0 1) ≤ x2 → kk σ) ∧
  (¬ ((σ k).1 60 0 1) ≤ x2 → 
    vp_in x1 3 ∧ (vp_in x2 40 ∧ ((¬ ((σ k).1 52 (jaIx x1) (jaIx x2)) = (nI 1) → jc_St_passGoing_1 D kk k x1 (x2 + (nI 1)) σ) ∧
    (((σ k).1 52 (jaIx x1) (jaIx x2)) = (nI 1) → 
      vp_in x1 3 ∧ (vp_in x2 40 ∧ (vp_in x2 40 ∧ 
      (let σ1 : jaT := jaU σ k (jaUI (σ k) 53 (jaIx x1) (jaIx x2) (((σ k).1 53 (jaIx x1) (jaIx x2)) - (nI 1)))
      vp_in x1 3 ∧ (vp_in x2 40 ∧ ((0 < ((σ1 k).1 53 (jaIx x1) (jaIx x2)) → jc_St_passGoing_1 D kk k x1 (x2 + (nI 1)) σ1) ∧
      (¬ 0 < ((σ1 k).1 53 (jaIx x1) (jaIx x2)) → 
        (jaDe D) jy_St_execute [.inr (.inr (40, k, 0)), .inl x1, .inl x2] σ1 (jaKv fun σ2 =>
          jc_St_passGoing_1 D kk k x1 (x2 + (nI 1)) σ2)))))))))))) :
  jc_St_passGoing_1 D kk k x1 x2 σ :=
  jaRun_go (jaCall_self jaAr jaMt D) [1] 43 _ _ _ _ h
abbrev jm_St_takeReady : jaM := (jf_St_takeReady, jp_St_takeReady, 7)
def jc_St_takeReady_1 (D : Nat) (kk : jaT → Prop) (k : Nat) (x1 : Int32) (x2 : Int64) (x4 : Int32) (x5 : Int32) (u6 : Option jaV) (σ : jaT) : Prop := jaC (jaDe D) jm_St_takeReady (jaKv kk) 1 [some (.inr (.inr (40, k, 0))), some (.inl x1), some (.inr (.inl x2)), none, some (.inl x4), some (.inl x5), u6] [] σ
theorem js_St_takeReady {D : Nat} {kk : jaT → Prop} {σ : jaT} {k : Nat} {x1 : Int32} (h :
  (jaDe D) jy_St_readyPlaces [.inr (.inr (40, k, 0)), .inl x1] σ (jaKl fun r2 σ1 =>
    vp_in x1 3 ∧ jc_St_takeReady_1 D kk k x1 r2 ((σ1 k).1 33 0 (jaIx x1)) (nI 0) none σ1)) :
  jaDe (D + 1) jy_St_takeReady [.inr (.inr (40, k, 0)), .inl x1] σ (jaKv kk) :=
  jaCall_intro (mt := jaMt) (y := jy_St_takeReady) (f := jf_St_takeReady) (ps := jp_St_takeReady) (nL := 7) rfl rfl (jaRun_go (jaCall_self jaAr jaMt D) [1] 16 _ _ _ _ h)
set_option maxRecDepth 20000 in
theorem jb_St_takeReady_1 {D : Nat} {kk : jaT → Prop} {σ : jaT} {k : Nat} {x1 : Int32} {x2 : Int64} {x4 : Int32} {x5 : Int32} {u6 : Option jaV} (h :
  (((σ k).1 60 0 1) ≤ x5 → kk σ) ∧
  (¬ ((σ k).1 60 0 1) ≤ x5 → 
    (x4 ≤ 0 → kk σ) ∧
    (¬ x4 ≤ 0 → 
      vp_in x1 3 ∧ ((((σ k).1 34 0 (jaIx x1)) = 0 → 
        (¬ (lg_cmp (((Int64.toUInt64 x2 >>> (Int64.toUInt64 (Int32.toInt64 x5) &&& Int64.toUInt64 63)).toInt64) &&& (Int64.ofNat 1)) (Int64.ofNat 1)) = 0 → 
          jc_St_takeReady_1 D kk k x1 x2 x4 (x5 + (nI 1)) (some (.inl x5)) σ) ∧
        ((lg_cmp (((Int64.toUInt64 x2 >>> (Int64.toUInt64 (Int32.toInt64 x5) &&& Int64.toUInt64 63)).toInt64) &&& (Int64.ofNat 1)) (Int64.ofNat 1)) = 0 → 
          (((σ k).1 30 0 4) ≤ 0 → 
            (jaDe D) jy_St_execute [.inr (.inr (40, k, 0)), .inl x1, .inl x5] σ (jaKv fun σ1 =>
              jc_St_takeReady_1 D kk k x1 x2 (x4 + (-1 : Int32)) (x5 + (nI 1)) (some (.inl x5)) σ1)) ∧
          (¬ ((σ k).1 30 0 4) ≤ 0 → 
            vp_in x5 40 ∧ (vp_in ((σ k).1 68 0 (jaIx x5)) 64 ∧ ((((σ k).1 64 0 (jaIx ((σ k).1 68 0 (jaIx x5)))) = 0 → 
              (jaDe D) jy_St_execute [.inr (.inr (40, k, 0)), .inl x1, .inl x5] σ (jaKv fun σ2 =>
                jc_St_takeReady_1 D kk k x1 x2 (x4 + (-1 : Int32)) (x5 + (nI 1)) (some (.inl x5)) σ2)) ∧
            (¬ ((σ k).1 64 0 (jaIx ((σ k).1 68 0 (jaIx x5)))) = 0 → 
              vp_in x1 3 ∧ (vp_in x5 40 ∧ 
              (let σ3 : jaT := jaU σ k (jaUI (σ k) 52 (jaIx x1) (jaIx x5) (nI 1))
              vp_in x1 3 ∧ (vp_in x5 40 ∧ 
              (let σ4 : jaT := jaU σ3 k (jaUI (σ3 k) 53 (jaIx x1) (jaIx x5) ((σ3 k).1 30 0 4))
              jc_St_takeReady_1 D kk k x1 x2 (x4 + (-1 : Int32)) (x5 + (nI 1)) (some (.inl x5)) σ4)))))))))) ∧
      (¬ ((σ k).1 34 0 (jaIx x1)) = 0 → 
        (¬ (lg_cmp (((Int64.toUInt64 x2 >>> (Int64.toUInt64 (Int32.toInt64 ((((σ k).1 60 0 1) - (nI 1)) - x5)) &&& Int64.toUInt64 63)).toInt64) &&& (Int64.ofNat 1)) (Int64.ofNat 1)) = 0 → 
          jc_St_takeReady_1 D kk k x1 x2 x4 (x5 + (nI 1)) (some (.inl ((((σ k).1 60 0 1) - (nI 1)) - x5))) σ) ∧
        ((lg_cmp (((Int64.toUInt64 x2 >>> (Int64.toUInt64 (Int32.toInt64 ((((σ k).1 60 0 1) - (nI 1)) - x5)) &&& Int64.toUInt64 63)).toInt64) &&& (Int64.ofNat 1)) (Int64.ofNat 1)) = 0 → 
          (((σ k).1 30 0 4) ≤ 0 → 
            (jaDe D) jy_St_execute [.inr (.inr (40, k, 0)), .inl x1, .inl ((((σ k).1 60 0 1) - (nI 1)) - x5)] σ (jaKv fun σ5 =>
              jc_St_takeReady_1 D kk k x1 x2 (x4 + (-1 : Int32)) (x5 + (nI 1)) (some (.inl ((((σ k).1 60 0 1) - (nI 1)) - x5))) σ5)) ∧
          (¬ ((σ k).1 30 0 4) ≤ 0 → 
            vp_in ((((σ k).1 60 0 1) - (nI 1)) - x5) 40 ∧ (vp_in ((σ k).1 68 0 (jaIx ((((σ k).1 60 0 1) - (nI 1)) - x5))) 64 ∧ ((((σ k).1 64 0 (jaIx ((σ k).1 68 0 (jaIx ((((σ k).1 60 0 1) - (nI 1)) - x5))))) = 0 → 
              (jaDe D) jy_St_execute [.inr (.inr (40, k, 0)), .inl x1, .inl ((((σ k).1 60 0 1) - (nI 1)) - x5)] σ (jaKv fun σ6 =>
                jc_St_takeReady_1 D kk k x1 x2 (x4 + (-1 : Int32)) (x5 + (nI 1)) (some (.inl ((((σ k).1 60 0 1) - (nI 1)) - x5))) σ6)) ∧
            (¬ ((σ k).1 64 0 (jaIx ((σ k).1 68 0 (jaIx ((((σ k).1 60 0 1) - (nI 1)) - x5))))) = 0 → 
              vp_in x1 3 ∧ (vp_in ((((σ k).1 60 0 1) - (nI 1)) - x5) 40 ∧ 
              (let σ7 : jaT := jaU σ k (jaUI (σ k) 52 (jaIx x1) (jaIx ((((σ k).1 60 0 1) - (nI 1)) - x5)) (nI 1))
              vp_in x1 3 ∧ (vp_in ((((σ k).1 60 0 1) - (nI 1)) - x5) 40 ∧ 
              (let σ8 : jaT := jaU σ7 k (jaUI (σ7 k) 53 (jaIx x1) (jaIx ((((σ k).1 60 0 1) - (nI 1)) - x5)) ((σ7 k).1 30 0 4))
              jc_St_takeReady_1 D kk k x1 x2 (x4 + (-1 : Int32)) (x5 + (nI 1)) (some (.inl ((((σ k).1 60 0 1) - (nI 1)) - x5))) σ8)))))))))))))) :
  jc_St_takeReady_1 D kk k x1 x2 x4 x5 u6 σ :=
  jaRun_go (jaCall_self jaAr jaMt D) [1] 69 _ _ _ _ h
abbrev jm_St_execute : jaM := (jf_St_execute, jp_St_execute, 7)
set_option maxRecDepth 20000 in
theorem js_St_execute {D : Nat} {kk : jaT → Prop} {σ : jaT} {k : Nat} {x1 : Int32} {x2 : Int32} (h :
  vp_in x2 40 ∧ (vp_in ((σ k).1 68 0 (jaIx x2)) 64 ∧ (vp_in x1 3 ∧ ((jaDe D) jy_Sc_run [.inr (.inr (54, k, 0)), .inl ((σ k).1 61 0 (jaIx ((σ k).1 68 0 (jaIx x2)))), .inr (.inr (67, k, 0)), .inl (((σ k).1 68 0 (jaIx x2)) * (nI 4)), .inr (.inr (51, k, (jaIx x1))), .inr (.inr (42, k, 0)), .inl ((σ k).1 30 0 1)] σ (jaKi fun r2 σ1 =>
    vp_in x1 3 ∧ (vp_in x2 40 ∧ 
    (let σ3 : jaT := jaU σ1 k (jaUI (σ1 k) 52 (jaIx x1) (jaIx x2) r2)
    (¬ r2 = (nI 2) → 
      (¬ r2 = (nI 3) → kk σ3) ∧
      (r2 = (nI 3) → 
        (¬ x1 = 0 → kk σ3) ∧
        (x1 = 0 → 
          vp_in ((σ k).1 68 0 (jaIx x2)) 64 ∧ ((¬ ((σ3 k).1 65 0 (jaIx ((σ k).1 68 0 (jaIx x2)))) = 0 → kk σ3) ∧
          (((σ3 k).1 65 0 (jaIx ((σ k).1 68 0 (jaIx x2)))) = 0 → 
            vp_in ((σ k).1 68 0 (jaIx x2)) 64 ∧ ((nI 1) = 0 ∨ (nI 1) = 1) ∧ 
            (let σ4 : jaT := jaU σ3 k (jaUI (σ3 k) 65 0 (jaIx ((σ k).1 68 0 (jaIx x2))) (nI 1))
            (jaDe D) jy_St_arriveEntry [.inr (.inr (40, k, 0)), .inl ((σ k).1 61 0 (jaIx ((σ k).1 68 0 (jaIx x2))))] σ4 (jaKv fun σ5 =>
              kk σ5))))))) ∧
    (r2 = (nI 2) → 
      (jaDe D) jy_St_writeGiven [.inr (.inr (40, k, 0)), .inl x1, .inl x2] σ3 (jaKv fun σ6 =>
        (¬ r2 = (nI 3) → kk σ6) ∧
        (r2 = (nI 3) → 
          (¬ x1 = 0 → kk σ6) ∧
          (x1 = 0 → 
            vp_in ((σ k).1 68 0 (jaIx x2)) 64 ∧ ((¬ ((σ6 k).1 65 0 (jaIx ((σ k).1 68 0 (jaIx x2)))) = 0 → kk σ6) ∧
            (((σ6 k).1 65 0 (jaIx ((σ k).1 68 0 (jaIx x2)))) = 0 → 
              vp_in ((σ k).1 68 0 (jaIx x2)) 64 ∧ ((nI 1) = 0 ∨ (nI 1) = 1) ∧ 
              (let σ7 : jaT := jaU σ6 k (jaUI (σ6 k) 65 0 (jaIx ((σ k).1 68 0 (jaIx x2))) (nI 1))
              (jaDe D) jy_St_arriveEntry [.inr (.inr (40, k, 0)), .inl ((σ k).1 61 0 (jaIx ((σ k).1 68 0 (jaIx x2))))] σ7 (jaKv fun σ8 =>
                kk σ8))))))))))))))) :
  jaDe (D + 1) jy_St_execute [.inr (.inr (40, k, 0)), .inl x1, .inl x2] σ (jaKv kk) :=
  jaCall_intro (mt := jaMt) (y := jy_St_execute) (f := jf_St_execute) (ps := jp_St_execute) (nL := 7) rfl rfl (jaRun_go (jaCall_self jaAr jaMt D) [] 76 _ _ _ _ h)
abbrev jm_St_writeGiven : jaM := (jf_St_writeGiven, jp_St_writeGiven, 5)
def jc_St_writeGiven_1 (D : Nat) (kk : jaT → Prop) (k : Nat) (x1 : Int32) (x2 : Int32) (x3 : Int32) (x4 : Int32) (σ : jaT) : Prop := jaC (jaDe D) jm_St_writeGiven (jaKv kk) 1 [some (.inr (.inr (40, k, 0))), some (.inl x1), some (.inl x2), some (.inl x3), some (.inl x4)] [] σ
theorem js_St_writeGiven {D : Nat} {kk : jaT → Prop} {σ : jaT} {k : Nat} {x1 : Int32} {x2 : Int32} (h :
  vp_in x2 40 ∧ (vp_in ((σ k).1 68 0 (jaIx x2)) 64 ∧ jc_St_writeGiven_1 D kk k x1 x2 ((σ k).1 63 0 (jaIx ((σ k).1 68 0 (jaIx x2)))) (nI 0) σ)) :
  jaDe (D + 1) jy_St_writeGiven [.inr (.inr (40, k, 0)), .inl x1, .inl x2] σ (jaKv kk) :=
  jaCall_intro (mt := jaMt) (y := jy_St_writeGiven) (f := jf_St_writeGiven) (ps := jp_St_writeGiven) (nL := 5) rfl rfl (jaRun_go (jaCall_self jaAr jaMt D) [1] 16 _ _ _ _ h)
set_option maxRecDepth 20000 in
theorem jb_St_writeGiven_1 {D : Nat} {kk : jaT → Prop} {σ : jaT} {k : Nat} {x1 : Int32} {x2 : Int32} {x3 : Int32} {x4 : Int32} (h :
  (((σ k).1 30 0 1) ≤ x4 → kk σ) ∧
  (¬ ((σ k).1 30 0 1) ≤ x4 → 
    (¬ (((Int32.toUInt32 x3 >>> (Int32.toUInt32 x4 &&& Int32.toUInt32 31)).toInt32) &&& (nI 1)) = (nI 1) → jc_St_writeGiven_1 D kk k x1 x2 x3 (x4 + (nI 1)) σ) ∧
    ((((Int32.toUInt32 x3 >>> (Int32.toUInt32 x4 &&& Int32.toUInt32 31)).toInt32) &&& (nI 1)) = (nI 1) → 
      (¬ x1 = 0 → 
        vp_in x1 3 ∧ (vp_in x4 10 ∧ (vp_in x4 10 ∧ 
        (let σ1 : jaT := jaU σ k (jaUI (σ k) 51 (jaIx x1) (jaIx x4) ((σ k).1 42 0 (jaIx x4)))
        jc_St_writeGiven_1 D kk k x1 x2 x3 (x4 + (nI 1)) σ1)))) ∧
      (x1 = 0 → 
        vp_in (nI 0) 3 ∧ (vp_in x4 10 ∧ ((jaDe D) jy_Ck_noteWrite [.inr (.inr (44, k, 0)), .inl x2, .inl x4, .inl ((σ k).1 51 (jaIx (nI 0)) (jaIx x4))] σ (jaKv fun σ2 =>
          vp_in x1 3 ∧ (vp_in x4 10 ∧ (vp_in x4 10 ∧ 
          (let σ3 : jaT := jaU σ2 k (jaUI (σ2 k) 51 (jaIx x1) (jaIx x4) ((σ2 k).1 42 0 (jaIx x4)))
          jc_St_writeGiven_1 D kk k x1 x2 x3 (x4 + (nI 1)) σ3)))))))))) :
  jc_St_writeGiven_1 D kk k x1 x2 x3 x4 σ :=
  jaRun_go (jaCall_self jaAr jaMt D) [1] 44 _ _ _ _ h
abbrev jm_St_takeCheckKey : jaM := (jf_St_takeCheckKey, jp_St_takeCheckKey, 1)
theorem js_St_takeCheckKey {D : Nat} {kk : jaT → Prop} {σ : jaT} {k : Nat} (h :
  (((σ k).1 30 0 1) ≤ ((σ k).1 44 0 2) → 
    (((σ k).1 44 0 2) < ((σ k).1 30 0 1) → kk σ) ∧
    (¬ ((σ k).1 44 0 2) < ((σ k).1 30 0 1) → 
      vp_in (nI 0) 3 ∧ (jaDe D) jy_Ck_finish [.inr (.inr (44, k, 0)), .inr (.inr (50, k, (jaIx (nI 0))))] σ (jaKv fun σ1 =>
        kk σ1))) ∧
  (¬ ((σ k).1 30 0 1) ≤ ((σ k).1 44 0 2) → 
    vp_in (nI 0) 3 ∧ (vp_in ((σ k).1 44 0 2) 10 ∧ ((jaDe D) jy_Ck_takeNext [.inr (.inr (44, k, 0)), .inl ((σ k).1 51 (jaIx (nI 0)) (jaIx ((σ k).1 44 0 2)))] σ (jaKv fun σ2 =>
      (((σ2 k).1 44 0 2) < ((σ2 k).1 30 0 1) → kk σ2) ∧
      (¬ ((σ2 k).1 44 0 2) < ((σ2 k).1 30 0 1) → 
        vp_in (nI 0) 3 ∧ (jaDe D) jy_Ck_finish [.inr (.inr (44, k, 0)), .inr (.inr (50, k, (jaIx (nI 0))))] σ2 (jaKv fun σ3 =>
          kk σ3))))))) :
  jaDe (D + 1) jy_St_takeCheckKey [.inr (.inr (40, k, 0))] σ (jaKv kk) :=
  jaCall_intro (mt := jaMt) (y := jy_St_takeCheckKey) (f := jf_St_takeCheckKey) (ps := jp_St_takeCheckKey) (nL := 1) rfl rfl (jaRun_go (jaCall_self jaAr jaMt D) [] 39 _ _ _ _ h)
abbrev jm_St_whyNotPut : jaM := (jf_St_whyNotPut, jp_St_whyNotPut, 2)
theorem js_St_whyNotPut {D : Nat} {kk : Int32 → jaT → Prop} {σ : jaT} {k : Nat} {x1 : Int32} (h :
  (x1 < 0 → kk (nI 9) σ) ∧
  (¬ x1 < 0 → 
    (x1 < ((σ k).1 54 0 0) → 
      (jaDe D) jy_Sc_isFull [.inr (.inr (54, k, 0))] σ (jaKi fun r2 σ1 =>
        (r2 = 0 → kk (nI 0) σ1) ∧
        (¬ r2 = 0 → kk (nI 1) σ1))) ∧
    (¬ x1 < ((σ k).1 54 0 0) → kk (nI 9) σ))) :
  jaDe (D + 1) jy_St_whyNotPut [.inr (.inr (40, k, 0)), .inl x1] σ (jaKi kk) :=
  jaCall_intro (mt := jaMt) (y := jy_St_whyNotPut) (f := jf_St_whyNotPut) (ps := jp_St_whyNotPut) (nL := 2) rfl rfl (jaRun_go (jaCall_self jaAr jaMt D) [] 17 _ _ _ _ h)
abbrev jm_St_putTrans : jaM := (jf_St_putTrans, jp_St_putTrans, 4)
theorem js_St_putTrans {D : Nat} {kk : jaT → Prop} {σ : jaT} {k : Nat} {x1 : Int32} {x2 : Int32} (h :
  (jaDe D) jy_Sc_addLike [.inr (.inr (54, k, 0)), .inl x2, .inl x1] σ (jaKi fun r2 σ1 =>
    (r2 < 0 → kk σ1) ∧
    (¬ r2 < 0 → 
      (jaDe D) jy_St_arriveEntry [.inr (.inr (40, k, 0)), .inl r2] σ1 (jaKv fun σ3 =>
        kk σ3)))) :
  jaDe (D + 1) jy_St_putTrans [.inr (.inr (40, k, 0)), .inl x1, .inl x2] σ (jaKv kk) :=
  jaCall_intro (mt := jaMt) (y := jy_St_putTrans) (f := jf_St_putTrans) (ps := jp_St_putTrans) (nL := 4) rfl rfl (jaRun_go (jaCall_self jaAr jaMt D) [] 16 _ _ _ _ h)
abbrev jm_St_whyNotCheck : jaM := (jf_St_whyNotCheck, jp_St_whyNotCheck, 1)
theorem js_St_whyNotCheck {D : Nat} {kk : Int32 → jaT → Prop} {σ : jaT} {k : Nat} (h :
  (((σ k).1 44 0 0) = 0 → kk (nI 0) σ) ∧
  (¬ ((σ k).1 44 0 0) = 0 → kk (nI 1) σ)) :
  jaDe (D + 1) jy_St_whyNotCheck [.inr (.inr (40, k, 0))] σ (jaKi kk) :=
  jaCall_intro (mt := jaMt) (y := jy_St_whyNotCheck) (f := jf_St_whyNotCheck) (ps := jp_St_whyNotCheck) (nL := 1) rfl rfl (jaRun_go (jaCall_self jaAr jaMt D) [] 10 _ _ _ _ h)
abbrev jm_St_beginCheck : jaM := (jf_St_beginCheck, jp_St_beginCheck, 1)
theorem js_St_beginCheck {D : Nat} {kk : jaT → Prop} {σ : jaT} {k : Nat} (h :
  (jaDe D) jy_Ck_begin [.inr (.inr (44, k, 0)), .inl ((σ k).1 60 0 1)] σ (jaKv fun σ1 =>
    (¬ ((σ1 k).1 30 0 1) = 0 → kk σ1) ∧
    (((σ1 k).1 30 0 1) = 0 → 
      vp_in (nI 0) 3 ∧ (jaDe D) jy_Ck_finish [.inr (.inr (44, k, 0)), .inr (.inr (50, k, (jaIx (nI 0))))] σ1 (jaKv fun σ2 =>
        kk σ2)))) :
  jaDe (D + 1) jy_St_beginCheck [.inr (.inr (40, k, 0))] σ (jaKv kk) :=
  jaCall_intro (mt := jaMt) (y := jy_St_beginCheck) (f := jf_St_beginCheck) (ps := jp_St_beginCheck) (nL := 1) rfl rfl (jaRun_go (jaCall_self jaAr jaMt D) [] 22 _ _ _ _ h)
abbrev jm_St_whyNotCrash : jaM := (jf_St_whyNotCrash, jp_St_whyNotCrash, 1)
theorem js_St_whyNotCrash {D : Nat} {kk : Int32 → jaT → Prop} {σ : jaT} {k : Nat} (h :
  (¬ ((σ k).1 60 0 1) = 0 → kk (nI 0) σ) ∧
  (((σ k).1 60 0 1) = 0 → kk (nI 1) σ)) :
  jaDe (D + 1) jy_St_whyNotCrash [.inr (.inr (40, k, 0))] σ (jaKi kk) :=
  jaCall_intro (mt := jaMt) (y := jy_St_whyNotCrash) (f := jf_St_whyNotCrash) (ps := jp_St_whyNotCrash) (nL := 1) rfl rfl (jaRun_go (jaCall_self jaAr jaMt D) [] 10 _ _ _ _ h)
abbrev jm_St_crashCopy : jaM := (jf_St_crashCopy, jp_St_crashCopy, 4)
def jc_St_crashCopy_1 (D : Nat) (kk : jaT → Prop) (k : Nat) (x1 : Int32) (k2 : Nat) (c2 : Nat) (x3 : Int32) (σ : jaT) : Prop := jaC (jaDe D) jm_St_crashCopy (jaKv kk) 1 [some (.inr (.inr (40, k, 0))), some (.inl x1), some (.inr (.inr (50, k2, c2))), some (.inl x3)] [] σ
def jc_St_crashCopy_3 (D : Nat) (kk : jaT → Prop) (k : Nat) (x1 : Int32) (k2 : Nat) (c2 : Nat) (x3 : Int32) (σ : jaT) : Prop := jaC (jaDe D) jm_St_crashCopy (jaKv kk) 3 [some (.inr (.inr (40, k, 0))), some (.inl x1), some (.inr (.inr (50, k2, c2))), some (.inl x3)] [] σ
theorem js_St_crashCopy {D : Nat} {kk : jaT → Prop} {σ : jaT} {k : Nat} {x1 : Int32} (h :
  vp_in x1 3 ∧ jc_St_crashCopy_1 D kk k x1 k (jaIx x1) (nI 0) σ) :
  jaDe (D + 1) jy_St_crashCopy [.inr (.inr (40, k, 0)), .inl x1] σ (jaKv kk) :=
  jaCall_intro (mt := jaMt) (y := jy_St_crashCopy) (f := jf_St_crashCopy) (ps := jp_St_crashCopy) (nL := 4) rfl rfl (jaRun_go (jaCall_self jaAr jaMt D) [1, 3] 11 _ _ _ _ h)
theorem jb_St_crashCopy_1 {D : Nat} {kk : jaT → Prop} {σ : jaT} {k : Nat} {x1 : Int32} {k2 : Nat} {c2 : Nat} {x3 : Int32} (h :
  (((σ k).1 30 0 1) ≤ x3 → jc_St_crashCopy_3 D kk k x1 k2 c2 (nI 0) σ) ∧
  (¬ ((σ k).1 30 0 1) ≤ x3 → 
    vp_in x3 10 ∧ (vp_in x3 10 ∧ 
    (let σ1 : jaT := jaU σ k2 (jaUI (σ k2) 51 c2 (jaIx x3) ((σ k).1 47 0 (jaIx x3)))
    jc_St_crashCopy_1 D kk k x1 k2 c2 (x3 + (nI 1)) σ1)))) :
  jc_St_crashCopy_1 D kk k x1 k2 c2 x3 σ :=
  jaRun_go (jaCall_self jaAr jaMt D) [1, 3] 19 _ _ _ _ h
theorem jb_St_crashCopy_3 {D : Nat} {kk : jaT → Prop} {σ : jaT} {k : Nat} {x1 : Int32} {k2 : Nat} {c2 : Nat} {x3 : Int32} (h :
  (((σ k).1 60 0 1) ≤ x3 → 
    (¬ x1 = 0 → kk σ) ∧
    (x1 = 0 → 
      ((nI 0) = 0 ∨ (nI 0) = 1) ∧
      (let σ1 : jaT := jaU σ k (jaUI (σ k) 44 0 0 (nI 0))
      kk σ1))) ∧
  (¬ ((σ k).1 60 0 1) ≤ x3 → 
    (((σ k).1 44 0 6) ≤ x3 → 
      vp_in x3 40 ∧ 
      (let σ2 : jaT := jaU σ k2 (jaUI (σ k2) 52 c2 (jaIx x3) (nI 0))
      jc_St_crashCopy_3 D kk k x1 k2 c2 (x3 + (nI 1)) σ2)) ∧
    (¬ ((σ k).1 44 0 6) ≤ x3 → 
      vp_in x3 40 ∧ (vp_in x3 40 ∧ 
      (let σ3 : jaT := jaU σ k2 (jaUI (σ k2) 52 c2 (jaIx x3) ((σ k).1 48 0 (jaIx x3)))
      jc_St_crashCopy_3 D kk k x1 k2 c2 (x3 + (nI 1)) σ3))))) :
  jc_St_crashCopy_3 D kk k x1 k2 c2 x3 σ :=
  jaRun_go (jaCall_self jaAr jaMt D) [1, 3] 25 _ _ _ _ h
abbrev jm_St_live : jaM := (jf_St_live, jp_St_live, 6)
def jc_St_live_9 (D : Nat) (kk : Int32 → jaT → Prop) (k : Nat) (x1 : Int32) (x2 : Int32) (x3 : Int32) (x5 : Int32) (σ : jaT) : Prop := jaC (jaDe D) jm_St_live (jaKi kk) 9 [some (.inr (.inr (40, k, 0))), some (.inl x1), some (.inl x2), some (.inl x3), none, some (.inl x5)] [] σ
theorem js_St_live {D : Nat} {kk : Int32 → jaT → Prop} {σ : jaT} {k : Nat} {x1 : Int32} {x2 : Int32} {x3 : Int32} (h :
  (x1.toInt < 109 ∨ 111 < x1.toInt → 
    (jaDe D) jy_St_ticksLeft [.inr (.inr (40, k, 0))] σ (jaKi fun r2 σ1 =>
      (x2 ≤ r2 → jc_St_live_9 D kk k x1 x2 x3 (nI 0) σ1) ∧
      (¬ x2 ≤ r2 → kk (nI 31) σ1))) ∧
  (x1 = nI 109 → 
    (jaDe D) jy_St_whyNotPut [.inr (.inr (40, k, 0)), .inl x3] σ (jaKi fun r4 σ3 =>
      (¬ r4 = 0 → kk r4 σ3) ∧
      (r4 = 0 → 
        (jaDe D) jy_St_putTrans [.inr (.inr (40, k, 0)), .inl x2, .inl x3] σ3 (jaKv fun σ5 =>
          kk r4 σ5)))) ∧
  (x1 = nI 110 → 
    (jaDe D) jy_St_whyNotCheck [.inr (.inr (40, k, 0))] σ (jaKi fun r7 σ6 =>
      (r7 = 0 → 
        (jaDe D) jy_St_beginCheck [.inr (.inr (40, k, 0))] σ6 (jaKv fun σ8 =>
          kk (nI 0) σ8)) ∧
      (¬ r7 = 0 → kk (nI 11) σ6))) ∧
  (x1 = nI 111 → 
    (jaDe D) jy_St_whyNotCrash [.inr (.inr (40, k, 0))] σ (jaKi fun r10 σ9 =>
      (r10 = 0 → 
        (jaDe D) jy_St_crashCopy [.inr (.inr (40, k, 0)), .inl x2] σ9 (jaKv fun σ11 =>
          kk (nI 0) σ11)) ∧
      (¬ r10 = 0 → kk (nI 21) σ9))) ∧ True) :
  jaDe (D + 1) jy_St_live [.inr (.inr (40, k, 0)), .inl x1, .inl x2, .inl x3] σ (jaKi kk) :=
  jaCall_intro (mt := jaMt) (y := jy_St_live) (f := jf_St_live) (ps := jp_St_live) (nL := 6) rfl rfl (jaRun_go (jaCall_self jaAr jaMt D) [9] 18 _ _ _ _ h)
theorem jb_St_live_9 {D : Nat} {kk : Int32 → jaT → Prop} {σ : jaT} {k : Nat} {x1 : Int32} {x2 : Int32} {x3 : Int32} {x5 : Int32} (h :
  (x2 ≤ x5 → kk (nI 0) σ) ∧
  (¬ x2 ≤ x5 → 
    (jaDe D) jy_St_passTick [.inr (.inr (40, k, 0))] σ (jaKv fun σ1 =>
      jc_St_live_9 D kk k x1 x2 x3 (x5 + (nI 1)) σ1))) :
  jc_St_live_9 D kk k x1 x2 x3 x5 σ :=
  jaRun_go (jaCall_self jaAr jaMt D) [9] 10 _ _ _ _ h
abbrev jm_St_drawTicks : jaM := (jf_St_drawTicks, jp_St_drawTicks, 4)
def jc_St_drawTicks_1 (D : Nat) (kk : jaT → Prop) (k : Nat) (x1 : Int32) (x2 : Int32) (x3 : Int32) (σ : jaT) : Prop := jaC (jaDe D) jm_St_drawTicks (jaKv kk) 1 [some (.inr (.inr (40, k, 0))), some (.inl x1), some (.inl x2), some (.inl x3)] [] σ
theorem js_St_drawTicks {D : Nat} {kk : jaT → Prop} {σ : jaT} {k : Nat} {x1 : Int32} {x2 : Int32} (h :
  let σ1 : jaT := jaU σ k (jaUI (σ k) 40 0 8 x2)
  jc_St_drawTicks_1 D kk k x1 x2 (nI 0) σ1) :
  jaDe (D + 1) jy_St_drawTicks [.inr (.inr (40, k, 0)), .inl x1, .inl x2] σ (jaKv kk) :=
  jaCall_intro (mt := jaMt) (y := jy_St_drawTicks) (f := jf_St_drawTicks) (ps := jp_St_drawTicks) (nL := 4) rfl rfl (jaRun_go (jaCall_self jaAr jaMt D) [1] 9 _ _ _ _ h)
theorem jb_St_drawTicks_1 {D : Nat} {kk : jaT → Prop} {σ : jaT} {k : Nat} {x1 : Int32} {x2 : Int32} {x3 : Int32} (h :
  (x1 ≤ x3 → kk σ) ∧
  (¬ x1 ≤ x3 → 
    (jaDe D) jy_St_ticksLeft [.inr (.inr (40, k, 0))] σ (jaKi fun r2 σ1 =>
      (r2 ≤ 0 → kk σ1) ∧
      (¬ r2 ≤ 0 → 
        (jaDe D) jy_St_drawAct [.inr (.inr (40, k, 0))] σ1 (jaKv fun σ3 =>
          (jaDe D) jy_St_passTick [.inr (.inr (40, k, 0))] σ3 (jaKv fun σ4 =>
            jc_St_drawTicks_1 D kk k x1 x2 (x3 + (nI 1)) σ4)))))) :
  jc_St_drawTicks_1 D kk k x1 x2 x3 σ :=
  jaRun_go (jaCall_self jaAr jaMt D) [1] 15 _ _ _ _ h
abbrev jm_St_drawOf : jaM := (jf_St_drawOf, jp_St_drawOf, 2)
theorem js_St_drawOf {D : Nat} {kk : Int32 → jaT → Prop} {σ : jaT} {k : Nat} {x1 : Int32} (h :
  let σ1 : jaT := jaU σ k (jaUI (σ k) 40 0 8 ((((σ k).1 40 0 8) * (nI 1103515245)) + (nI 12345)))
  (x1 ≤ 0 → kk (nI 0) σ1) ∧
  (¬ x1 ≤ 0 → 
    ¬ x1 = 0 ∧ kk (((Int32.toUInt32 ((σ1 k).1 40 0 8) >>> (Int32.toUInt32 (nI 8) &&& Int32.toUInt32 31)).toInt32) - ((Int32.toUInt32 ((σ1 k).1 40 0 8) >>> (Int32.toUInt32 (nI 8) &&& Int32.toUInt32 31)).toInt32) / x1 * x1) σ1)) :
  jaDe (D + 1) jy_St_drawOf [.inr (.inr (40, k, 0)), .inl x1] σ (jaKi kk) :=
  jaCall_intro (mt := jaMt) (y := jy_St_drawOf) (f := jf_St_drawOf) (ps := jp_St_drawOf) (nL := 2) rfl rfl (jaRun_go (jaCall_self jaAr jaMt D) [] 21 _ _ _ _ h)
abbrev jm_St_drawAct : jaM := (jf_St_drawAct, jp_St_drawAct, 4)
theorem js_St_drawAct {D : Nat} {kk : jaT → Prop} {σ : jaT} {k : Nat} (h :
  (jaDe D) jy_St_drawOf [.inr (.inr (40, k, 0)), .inl (nI 6)] σ (jaKi fun r2 σ1 =>
    ((nI 2) ≤ r2 → 
      (¬ r2 = (nI 2) → 
        (¬ r2 = (nI 3) → kk σ1) ∧
        (r2 = (nI 3) → 
          (jaDe D) jy_St_whyNotCheck [.inr (.inr (40, k, 0))] σ1 (jaKi fun r4 σ3 =>
            (¬ r4 = 0 → kk σ3) ∧
            (r4 = 0 → 
              (jaDe D) jy_St_beginCheck [.inr (.inr (40, k, 0))] σ3 (jaKv fun σ5 =>
                kk σ5))))) ∧
      (r2 = (nI 2) → 
        (jaDe D) jy_St_drawOf [.inr (.inr (40, k, 0)), .inl ((σ1 k).1 30 0 2)] σ1 (jaKi fun r7 σ6 =>
          (jaDe D) jy_St_drawOf [.inr (.inr (40, k, 0)), .inl (nI 4)] σ6 (jaKi fun r9 σ8 =>
            (¬ r9 = 0 → kk σ8) ∧
            (r9 = 0 → 
              (jaDe D) jy_St_whyNotCrash [.inr (.inr (40, k, 0))] σ8 (jaKi fun r11 σ10 =>
                (¬ r11 = 0 → kk σ10) ∧
                (r11 = 0 → 
                  (jaDe D) jy_St_crashCopy [.inr (.inr (40, k, 0)), .inl r7] σ10 (jaKv fun σ12 =>
                    kk σ12)))))))) ∧
    (¬ (nI 2) ≤ r2 → 
      (((σ1 k).1 30 0 0) ≤ 0 → kk σ1) ∧
      (¬ ((σ1 k).1 30 0 0) ≤ 0 → 
        (((σ1 k).1 54 0 0) ≤ 0 → kk σ1) ∧
        (¬ ((σ1 k).1 54 0 0) ≤ 0 → 
          (jaDe D) jy_St_drawOf [.inr (.inr (40, k, 0)), .inl ((σ1 k).1 30 0 0)] σ1 (jaKi fun r14 σ13 =>
            (jaDe D) jy_St_drawOf [.inr (.inr (40, k, 0)), .inl ((σ13 k).1 54 0 0)] σ13 (jaKi fun r16 σ15 =>
              (jaDe D) jy_St_putTrans [.inr (.inr (40, k, 0)), .inl r14, .inl r16] σ15 (jaKv fun σ17 =>
                kk σ17)))))))) :
  jaDe (D + 1) jy_St_drawAct [.inr (.inr (40, k, 0))] σ (jaKv kk) :=
  jaCall_intro (mt := jaMt) (y := jy_St_drawAct) (f := jf_St_drawAct) (ps := jp_St_drawAct) (nL := 4) rfl rfl (jaRun_go (jaCall_self jaAr jaMt D) [] 36 _ _ _ _ h)
abbrev jm_St_isAllExecuted : jaM := (jf_St_isAllExecuted, jp_St_isAllExecuted, 2)
def jc_St_isAllExecuted_1 (D : Nat) (kk : Int32 → jaT → Prop) (k : Nat) (x1 : Int32) (σ : jaT) : Prop := jaC (jaDe D) jm_St_isAllExecuted (jaKi kk) 1 [some (.inr (.inr (40, k, 0))), some (.inl x1)] [] σ
theorem js_St_isAllExecuted {D : Nat} {kk : Int32 → jaT → Prop} {σ : jaT} {k : Nat} (h :
  jc_St_isAllExecuted_1 D kk k (nI 0) σ) :
  jaDe (D + 1) jy_St_isAllExecuted [.inr (.inr (40, k, 0))] σ (jaKi kk) :=
  jaCall_intro (mt := jaMt) (y := jy_St_isAllExecuted) (f := jf_St_isAllExecuted) (ps := jp_St_isAllExecuted) (nL := 2) rfl rfl (jaRun_go (jaCall_self jaAr jaMt D) [1] 6 _ _ _ _ h)
theorem jb_St_isAllExecuted_1 {D : Nat} {kk : Int32 → jaT → Prop} {σ : jaT} {k : Nat} {x1 : Int32} (h :
  (((σ k).1 30 0 2) ≤ x1 → ((nI 1) = 0 ∨ (nI 1) = 1) ∧ kk (nI 1) σ) ∧
  (¬ ((σ k).1 30 0 2) ≤ x1 → 
    vp_in x1 3 ∧ ((jaDe D) jy_Cp_isExecutedAhead [.inr (.inr (50, k, (jaIx x1))), .inl ((σ k).1 60 0 1)] σ (jaKi fun r2 σ1 =>
      (¬ r2 = 0 → jc_St_isAllExecuted_1 D kk k (x1 + (nI 1)) σ1) ∧
      (r2 = 0 → ((nI 0) = 0 ∨ (nI 0) = 1) ∧ kk (nI 0) σ1))))) :
  jc_St_isAllExecuted_1 D kk k x1 σ :=
  jaRun_go (jaCall_self jaAr jaMt D) [1] 19 _ _ _ _ h
abbrev jm_St_isOver : jaM := (jf_St_isOver, jp_St_isOver, 1)
theorem js_St_isOver {D : Nat} {kk : Int32 → jaT → Prop} {σ : jaT} {k : Nat} (h :
  (¬ ((σ k).1 60 0 0) = ((σ k).1 60 0 1) → ((nI 0) = 0 ∨ (nI 0) = 1) ∧ kk (nI 0) σ) ∧
  (((σ k).1 60 0 0) = ((σ k).1 60 0 1) → 
    (jaDe D) jy_St_isAllExecuted [.inr (.inr (40, k, 0))] σ (jaKi fun r2 σ1 =>
      (r2 = 0 → ((nI 0) = 0 ∨ (nI 0) = 1) ∧ kk (nI 0) σ1) ∧
      (¬ r2 = 0 → ((nI 1) = 0 ∨ (nI 1) = 1) ∧ kk (nI 1) σ1)))) :
  jaDe (D + 1) jy_St_isOver [.inr (.inr (40, k, 0))] σ (jaKi kk) :=
  jaCall_intro (mt := jaMt) (y := jy_St_isOver) (f := jf_St_isOver) (ps := jp_St_isOver) (nL := 1) rfl rfl (jaRun_go (jaCall_self jaAr jaMt D) [] 16 _ _ _ _ h)
abbrev jm_St_isSame : jaM := (jf_St_isSame, jp_St_isSame, 3)
def jc_St_isSame_2 (D : Nat) (kk : Int32 → jaT → Prop) (k : Nat) (x1 : Int32) (u2 : Option jaV) (σ : jaT) : Prop := jaC (jaDe D) jm_St_isSame (jaKi kk) 2 [some (.inr (.inr (40, k, 0))), some (.inl x1), u2] [] σ
def jc_St_isSame_3 (D : Nat) (kk : Int32 → jaT → Prop) (k : Nat) (x1 : Int32) (x2 : Int32) (σ : jaT) : Prop := jaC (jaDe D) jm_St_isSame (jaKi kk) 3 [some (.inr (.inr (40, k, 0))), some (.inl x1), some (.inl x2)] [] σ
theorem js_St_isSame {D : Nat} {kk : Int32 → jaT → Prop} {σ : jaT} {k : Nat} (h :
  (jaDe D) jy_St_isAllExecuted [.inr (.inr (40, k, 0))] σ (jaKi fun r2 σ1 =>
    (¬ r2 = 0 → jc_St_isSame_2 D kk k (nI 1) none σ1) ∧
    (r2 = 0 → ((nI 0) = 0 ∨ (nI 0) = 1) ∧ kk (nI 0) σ1))) :
  jaDe (D + 1) jy_St_isSame [.inr (.inr (40, k, 0))] σ (jaKi kk) :=
  jaCall_intro (mt := jaMt) (y := jy_St_isSame) (f := jf_St_isSame) (ps := jp_St_isSame) (nL := 3) rfl rfl (jaRun_go (jaCall_self jaAr jaMt D) [2, 3] 9 _ _ _ _ h)
theorem jb_St_isSame_2 {D : Nat} {kk : Int32 → jaT → Prop} {σ : jaT} {k : Nat} {x1 : Int32} {u2 : Option jaV} (h :
  (((σ k).1 30 0 2) ≤ x1 → ((nI 1) = 0 ∨ (nI 1) = 1) ∧ kk (nI 1) σ) ∧
  (¬ ((σ k).1 30 0 2) ≤ x1 → jc_St_isSame_3 D kk k x1 (nI 0) σ)) :
  jc_St_isSame_2 D kk k x1 u2 σ :=
  jaRun_go (jaCall_self jaAr jaMt D) [2, 3] 11 _ _ _ _ h
theorem jb_St_isSame_3 {D : Nat} {kk : Int32 → jaT → Prop} {σ : jaT} {k : Nat} {x1 : Int32} {x2 : Int32} (h :
  (((σ k).1 30 0 1) ≤ x2 → jc_St_isSame_2 D kk k (x1 + (nI 1)) (some (.inl x2)) σ) ∧
  (¬ ((σ k).1 30 0 1) ≤ x2 → 
    vp_in x1 3 ∧ (vp_in x2 10 ∧ (vp_in (nI 0) 3 ∧ (vp_in x2 10 ∧ ((((σ k).1 51 (jaIx x1) (jaIx x2)) = ((σ k).1 51 (jaIx (nI 0)) (jaIx x2)) → jc_St_isSame_3 D kk k x1 (x2 + (nI 1)) σ) ∧
    (¬ ((σ k).1 51 (jaIx x1) (jaIx x2)) = ((σ k).1 51 (jaIx (nI 0)) (jaIx x2)) → ((nI 0) = 0 ∨ (nI 0) = 1) ∧ kk (nI 0) σ))))))) :
  jc_St_isSame_3 D kk k x1 x2 σ :=
  jaRun_go (jaCall_self jaAr jaMt D) [2, 3] 25 _ _ _ _ h
abbrev jm_St_beginSerially : jaM := (jf_St_beginSerially, jp_St_beginSerially, 3)
def jc_St_beginSerially_43_1 (D : Nat) (kk : jaT → Prop) (k : Nat) (k1 : Nat) (x2 : Int32) (σ : jaT) : Prop := jaC (jaDe D) jm_St_beginSerially (jaKv kk) 1 [some (.inr (.inr (40, k, 0))), some (.inr (.inr (43, k1, 0))), some (.inl x2)] [] σ
theorem js_St_beginSerially_43 {D : Nat} {kk : jaT → Prop} {σ : jaT} {k : Nat} {k1 : Nat} (h :
  jc_St_beginSerially_43_1 D kk k k1 (nI 0) σ) :
  jaDe (D + 1) jy_St_beginSerially [.inr (.inr (40, k, 0)), .inr (.inr (43, k1, 0))] σ (jaKv kk) :=
  jaCall_intro (mt := jaMt) (y := jy_St_beginSerially) (f := jf_St_beginSerially) (ps := jp_St_beginSerially) (nL := 3) rfl rfl (jaRun_go (jaCall_self jaAr jaMt D) [1] 6 _ _ _ _ h)
theorem jb_St_beginSerially_43_1 {D : Nat} {kk : jaT → Prop} {σ : jaT} {k : Nat} {k1 : Nat} {x2 : Int32} (h :
  (((σ k).1 30 0 1) ≤ x2 → kk σ) ∧
  (¬ ((σ k).1 30 0 1) ≤ x2 → 
    vp_in x2 10 ∧ (vp_in x2 10 ∧ 
    (let σ1 : jaT := jaU σ k1 (jaUI (σ k1) 43 0 (jaIx x2) ((σ k).1 32 0 (jaIx x2)))
    jc_St_beginSerially_43_1 D kk k k1 (x2 + (nI 1)) σ1)))) :
  jc_St_beginSerially_43_1 D kk k k1 x2 σ :=
  jaRun_go (jaCall_self jaAr jaMt D) [1] 18 _ _ _ _ h
def jc_St_beginSerially_18_1 (D : Nat) (kk : jaT → Prop) (k : Nat) (x2 : Int32) (σ : jaT) : Prop := jaC (jaDe D) jm_St_beginSerially (jaKv kk) 1 [some (.inr (.inr (40, k, 0))), some (.inr (.inr (18, 0, 0))), some (.inl x2)] [] σ
theorem js_St_beginSerially_18 {D : Nat} {kk : jaT → Prop} {σ : jaT} {k : Nat} (h :
  jc_St_beginSerially_18_1 D kk k (nI 0) σ) :
  jaDe (D + 1) jy_St_beginSerially [.inr (.inr (40, k, 0)), .inr (.inr (18, 0, 0))] σ (jaKv kk) :=
  jaCall_intro (mt := jaMt) (y := jy_St_beginSerially) (f := jf_St_beginSerially) (ps := jp_St_beginSerially) (nL := 3) rfl rfl (jaRun_go (jaCall_self jaAr jaMt D) [1] 6 _ _ _ _ h)
theorem jb_St_beginSerially_18_1 {D : Nat} {kk : jaT → Prop} {σ : jaT} {k : Nat} {x2 : Int32} (h :
  (((σ k).1 30 0 1) ≤ x2 → kk σ) ∧
  (¬ ((σ k).1 30 0 1) ≤ x2 → 
    vp_in x2 10 ∧ (vp_in x2 10 ∧ 
    (let σ1 : jaT := jaU σ 0 (jaUI (σ 0) 18 0 (jaIx x2) ((σ k).1 32 0 (jaIx x2)))
    jc_St_beginSerially_18_1 D kk k (x2 + (nI 1)) σ1)))) :
  jc_St_beginSerially_18_1 D kk k x2 σ :=
  jaRun_go (jaCall_self jaAr jaMt D) [1] 18 _ _ _ _ h
abbrev jm_St_runSerially : jaM := (jf_St_runSerially, jp_St_runSerially, 6)
def jc_St_runSerially_43_1 (D : Nat) (kk : jaT → Prop) (k : Nat) (x1 : Int32) (k2 : Nat) (x3 : Int32) (x4 : Int32) (x5 : Int32) (σ : jaT) : Prop := jaC (jaDe D) jm_St_runSerially (jaKv kk) 1 [some (.inr (.inr (40, k, 0))), some (.inl x1), some (.inr (.inr (43, k2, 0))), some (.inl x3), some (.inl x4), some (.inl x5)] [] σ
theorem js_St_runSerially_43 {D : Nat} {kk : jaT → Prop} {σ : jaT} {k : Nat} {x1 : Int32} {k2 : Nat} (h :
  vp_in x1 40 ∧ (vp_in ((σ k).1 68 0 (jaIx x1)) 64 ∧ ((jaDe D) jy_Sc_run [.inr (.inr (54, k, 0)), .inl ((σ k).1 61 0 (jaIx ((σ k).1 68 0 (jaIx x1)))), .inr (.inr (67, k, 0)), .inl (((σ k).1 68 0 (jaIx x1)) * (nI 4)), .inr (.inr (43, k2, 0)), .inr (.inr (42, k, 0)), .inl ((σ k).1 30 0 1)] σ (jaKi fun r2 σ1 =>
    (¬ r2 = (nI 2) → kk σ1) ∧
    (r2 = (nI 2) → 
      jc_St_runSerially_43_1 D kk k x1 k2 ((σ k).1 68 0 (jaIx x1)) r2 (nI 0) σ1))))) :
  jaDe (D + 1) jy_St_runSerially [.inr (.inr (40, k, 0)), .inl x1, .inr (.inr (43, k2, 0))] σ (jaKv kk) :=
  jaCall_intro (mt := jaMt) (y := jy_St_runSerially) (f := jf_St_runSerially) (ps := jp_St_runSerially) (nL := 6) rfl rfl (jaRun_go (jaCall_self jaAr jaMt D) [1] 36 _ _ _ _ h)
theorem jb_St_runSerially_43_1 {D : Nat} {kk : jaT → Prop} {σ : jaT} {k : Nat} {x1 : Int32} {k2 : Nat} {x3 : Int32} {x4 : Int32} {x5 : Int32} (h :
  (((σ k).1 30 0 1) ≤ x5 → kk σ) ∧
  (¬ ((σ k).1 30 0 1) ≤ x5 → 
    vp_in x5 10 ∧ (vp_in x5 10 ∧ 
    (let σ1 : jaT := jaU σ k2 (jaUI (σ k2) 43 0 (jaIx x5) ((σ k).1 42 0 (jaIx x5)))
    jc_St_runSerially_43_1 D kk k x1 k2 x3 x4 (x5 + (nI 1)) σ1)))) :
  jc_St_runSerially_43_1 D kk k x1 k2 x3 x4 x5 σ :=
  jaRun_go (jaCall_self jaAr jaMt D) [1] 17 _ _ _ _ h
def jc_St_runSerially_18_1 (D : Nat) (kk : jaT → Prop) (k : Nat) (x1 : Int32) (x3 : Int32) (x4 : Int32) (x5 : Int32) (σ : jaT) : Prop := jaC (jaDe D) jm_St_runSerially (jaKv kk) 1 [some (.inr (.inr (40, k, 0))), some (.inl x1), some (.inr (.inr (18, 0, 0))), some (.inl x3), some (.inl x4), some (.inl x5)] [] σ
theorem js_St_runSerially_18 {D : Nat} {kk : jaT → Prop} {σ : jaT} {k : Nat} {x1 : Int32} (h :
  vp_in x1 40 ∧ (vp_in ((σ k).1 68 0 (jaIx x1)) 64 ∧ ((jaDe D) jy_Sc_run [.inr (.inr (54, k, 0)), .inl ((σ k).1 61 0 (jaIx ((σ k).1 68 0 (jaIx x1)))), .inr (.inr (67, k, 0)), .inl (((σ k).1 68 0 (jaIx x1)) * (nI 4)), .inr (.inr (18, 0, 0)), .inr (.inr (42, k, 0)), .inl ((σ k).1 30 0 1)] σ (jaKi fun r2 σ1 =>
    (¬ r2 = (nI 2) → kk σ1) ∧
    (r2 = (nI 2) → 
      jc_St_runSerially_18_1 D kk k x1 ((σ k).1 68 0 (jaIx x1)) r2 (nI 0) σ1))))) :
  jaDe (D + 1) jy_St_runSerially [.inr (.inr (40, k, 0)), .inl x1, .inr (.inr (18, 0, 0))] σ (jaKv kk) :=
  jaCall_intro (mt := jaMt) (y := jy_St_runSerially) (f := jf_St_runSerially) (ps := jp_St_runSerially) (nL := 6) rfl rfl (jaRun_go (jaCall_self jaAr jaMt D) [1] 36 _ _ _ _ h)
theorem jb_St_runSerially_18_1 {D : Nat} {kk : jaT → Prop} {σ : jaT} {k : Nat} {x1 : Int32} {x3 : Int32} {x4 : Int32} {x5 : Int32} (h :
  (((σ k).1 30 0 1) ≤ x5 → kk σ) ∧
  (¬ ((σ k).1 30 0 1) ≤ x5 → 
    vp_in x5 10 ∧ (vp_in x5 10 ∧ 
    (let σ1 : jaT := jaU σ 0 (jaUI (σ 0) 18 0 (jaIx x5) ((σ k).1 42 0 (jaIx x5)))
    jc_St_runSerially_18_1 D kk k x1 x3 x4 (x5 + (nI 1)) σ1)))) :
  jc_St_runSerially_18_1 D kk k x1 x3 x4 x5 σ :=
  jaRun_go (jaCall_self jaAr jaMt D) [1] 17 _ _ _ _ h
abbrev jm_St_valueSerially : jaM := (jf_St_valueSerially, jp_St_valueSerially, 3)
def jc_St_valueSerially_1 (D : Nat) (kk : Int32 → jaT → Prop) (k : Nat) (x1 : Int32) (x2 : Int32) (σ : jaT) : Prop := jaC (jaDe D) jm_St_valueSerially (jaKi kk) 1 [some (.inr (.inr (40, k, 0))), some (.inl x1), some (.inl x2)] [] σ
theorem js_St_valueSerially {D : Nat} {kk : Int32 → jaT → Prop} {σ : jaT} {k : Nat} {x1 : Int32} (h :
  (jaDe D) jy_St_beginSerially [.inr (.inr (40, k, 0)), .inr (.inr (43, k, 0))] σ (jaKv fun σ1 =>
    jc_St_valueSerially_1 D kk k x1 (nI 0) σ1)) :
  jaDe (D + 1) jy_St_valueSerially [.inr (.inr (40, k, 0)), .inl x1] σ (jaKi kk) :=
  jaCall_intro (mt := jaMt) (y := jy_St_valueSerially) (f := jf_St_valueSerially) (ps := jp_St_valueSerially) (nL := 3) rfl rfl (jaRun_go (jaCall_self jaAr jaMt D) [1] 10 _ _ _ _ h)
theorem jb_St_valueSerially_1 {D : Nat} {kk : Int32 → jaT → Prop} {σ : jaT} {k : Nat} {x1 : Int32} {x2 : Int32} (h :
  (((σ k).1 60 0 1) ≤ x2 → vp_in x1 10 ∧ kk ((σ k).1 43 0 (jaIx x1)) σ) ∧
  (¬ ((σ k).1 60 0 1) ≤ x2 → 
    (jaDe D) jy_St_runSerially [.inr (.inr (40, k, 0)), .inl x2, .inr (.inr (43, k, 0))] σ (jaKv fun σ1 =>
      jc_St_valueSerially_1 D kk k x1 (x2 + (nI 1)) σ1))) :
  jc_St_valueSerially_1 D kk k x1 x2 σ :=
  jaRun_go (jaCall_self jaAr jaMt D) [1] 15 _ _ _ _ h
abbrev jm_Wo_copyFrom : jaM := (jf_Wo_copyFrom, jp_Wo_copyFrom, 3)
def jc_Wo_copyFrom_1 (D : Nat) (kk : jaT → Prop) (k : Nat) (k1 : Nat) (x2 : Int32) (σ : jaT) : Prop := jaC (jaDe D) jm_Wo_copyFrom (jaKv kk) 1 [some (.inr (.inr (30, k, 0))), some (.inr (.inr (30, k1, 0))), some (.inl x2)] [] σ
def jc_Wo_copyFrom_3 (D : Nat) (kk : jaT → Prop) (k : Nat) (k1 : Nat) (x2 : Int32) (σ : jaT) : Prop := jaC (jaDe D) jm_Wo_copyFrom (jaKv kk) 3 [some (.inr (.inr (30, k, 0))), some (.inr (.inr (30, k1, 0))), some (.inl x2)] [] σ
def jc_Wo_copyFrom_5 (D : Nat) (kk : jaT → Prop) (k : Nat) (k1 : Nat) (x2 : Int32) (σ : jaT) : Prop := jaC (jaDe D) jm_Wo_copyFrom (jaKv kk) 5 [some (.inr (.inr (30, k, 0))), some (.inr (.inr (30, k1, 0))), some (.inl x2)] [] σ
theorem js_Wo_copyFrom {D : Nat} {kk : jaT → Prop} {σ : jaT} {k : Nat} {k1 : Nat} (h :
  let σ1 : jaT := jaU σ k (jaUI (σ k) 30 0 0 ((σ k1).1 30 0 0))
  let σ2 : jaT := jaU σ1 k (jaUI (σ1 k) 30 0 1 ((σ1 k1).1 30 0 1))
  let σ3 : jaT := jaU σ2 k (jaUI (σ2 k) 30 0 2 ((σ2 k1).1 30 0 2))
  let σ4 : jaT := jaU σ3 k (jaUI (σ3 k) 30 0 3 ((σ3 k1).1 30 0 3))
  let σ5 : jaT := jaU σ4 k (jaUI (σ4 k) 30 0 4 ((σ4 k1).1 30 0 4))
  jc_Wo_copyFrom_1 D kk k k1 (nI 0) σ5) :
  jaDe (D + 1) jy_Wo_copyFrom [.inr (.inr (30, k, 0)), .inr (.inr (30, k1, 0))] σ (jaKv kk) :=
  jaCall_intro (mt := jaMt) (y := jy_Wo_copyFrom) (f := jf_Wo_copyFrom) (ps := jp_Wo_copyFrom) (nL := 3) rfl rfl (jaRun_go (jaCall_self jaAr jaMt D) [1, 3, 5] 26 _ _ _ _ h)
theorem jb_Wo_copyFrom_1 {D : Nat} {kk : jaT → Prop} {σ : jaT} {k : Nat} {k1 : Nat} {x2 : Int32} (h :
  ((nI 10) ≤ x2 → jc_Wo_copyFrom_3 D kk k k1 (nI 0) σ) ∧
  (¬ (nI 10) ≤ x2 → 
    vp_in x2 10 ∧ (vp_in x2 10 ∧ 
    (let σ1 : jaT := jaU σ k (jaUI (σ k) 31 0 (jaIx x2) ((σ k1).1 31 0 (jaIx x2)))
    vp_in x2 10 ∧ (vp_in x2 10 ∧ 
    (let σ2 : jaT := jaU σ1 k (jaUI (σ1 k) 32 0 (jaIx x2) ((σ1 k1).1 32 0 (jaIx x2)))
    jc_Wo_copyFrom_1 D kk k k1 (x2 + (nI 1)) σ2)))))) :
  jc_Wo_copyFrom_1 D kk k k1 x2 σ :=
  jaRun_go (jaCall_self jaAr jaMt D) [1, 3, 5] 24 _ _ _ _ h
theorem jb_Wo_copyFrom_3 {D : Nat} {kk : jaT → Prop} {σ : jaT} {k : Nat} {k1 : Nat} {x2 : Int32} (h :
  ((nI 3) ≤ x2 → jc_Wo_copyFrom_5 D kk k k1 (nI 0) σ) ∧
  (¬ (nI 3) ≤ x2 → 
    vp_in x2 3 ∧ (vp_in x2 3 ∧ 
    (let σ1 : jaT := jaU σ k (jaUI (σ k) 33 0 (jaIx x2) ((σ k1).1 33 0 (jaIx x2)))
    vp_in x2 3 ∧ (vp_in x2 3 ∧ (((σ1 k1).1 34 0 (jaIx x2)) = 0 ∨ ((σ1 k1).1 34 0 (jaIx x2)) = 1) ∧ 
    (let σ2 : jaT := jaU σ1 k (jaUI (σ1 k) 34 0 (jaIx x2) ((σ1 k1).1 34 0 (jaIx x2)))
    jc_Wo_copyFrom_3 D kk k k1 (x2 + (nI 1)) σ2)))))) :
  jc_Wo_copyFrom_3 D kk k k1 x2 σ :=
  jaRun_go (jaCall_self jaAr jaMt D) [1, 3, 5] 24 _ _ _ _ h
theorem jb_Wo_copyFrom_5 {D : Nat} {kk : jaT → Prop} {σ : jaT} {k : Nat} {k1 : Nat} {x2 : Int32} (h :
  ((nI 16) ≤ x2 → kk σ) ∧
  (¬ (nI 16) ≤ x2 → 
    vp_in x2 16 ∧ (vp_in x2 16 ∧ 
    (let σ1 : jaT := jaU σ k (jaUL (σ k) 35 0 (jaIx x2) ((σ k1).2 35 0 (jaIx x2)))
    jc_Wo_copyFrom_5 D kk k k1 (x2 + (nI 1)) σ1)))) :
  jc_Wo_copyFrom_5 D kk k k1 x2 σ :=
  jaRun_go (jaCall_self jaAr jaMt D) [1, 3, 5] 16 _ _ _ _ h
abbrev jm_Wo_read : jaM := (jf_Wo_read, jp_Wo_read, 4)
def jc_Wo_read_1 (D : Nat) (kk : Int32 → jaT → Prop) (k : Nat) (x2 : Int32) (σ : jaT) : Prop := jaC (jaDe D) jm_Wo_read (jaKi kk) 1 [some (.inr (.inr (30, k, 0))), some (.inr (.inr (2, 0, 0))), some (.inl x2), none] [] σ
def jc_Wo_read_3 (D : Nat) (kk : Int32 → jaT → Prop) (k : Nat) (x2 : Int32) (x3 : Int32) (σ : jaT) : Prop := jaC (jaDe D) jm_Wo_read (jaKi kk) 3 [some (.inr (.inr (30, k, 0))), some (.inr (.inr (2, 0, 0))), some (.inl x2), some (.inl x3)] [] σ
theorem js_Wo_read {D : Nat} {kk : Int32 → jaT → Prop} {σ : jaT} {k : Nat} (h :
  let σ1 : jaT := jaU σ k (jaUI (σ k) 30 0 0 (nI 0))
  let σ2 : jaT := jaU σ1 k (jaUI (σ1 k) 30 0 1 (nI 0))
  let σ3 : jaT := jaU σ2 k (jaUI (σ2 k) 30 0 2 (nI 0))
  let σ4 : jaT := jaU σ3 k (jaUI (σ3 k) 30 0 3 (-1 : Int32))
  let σ5 : jaT := jaU σ4 k (jaUI (σ4 k) 30 0 4 (-1 : Int32))
  jc_Wo_read_1 D kk k (nI 0) σ5) :
  jaDe (D + 1) jy_Wo_read [.inr (.inr (30, k, 0)), .inr (.inr (2, 0, 0))] σ (jaKi kk) :=
  jaCall_intro (mt := jaMt) (y := jy_Wo_read) (f := jf_Wo_read) (ps := jp_Wo_read) (nL := 4) rfl rfl (jaRun_go (jaCall_self jaAr jaMt D) [1, 3] 21 _ _ _ _ h)
theorem jb_Wo_read_1 {D : Nat} {kk : Int32 → jaT → Prop} {σ : jaT} {k : Nat} {x2 : Int32} (h :
  ((nI 16) ≤ x2 → jc_Wo_read_3 D kk k (nI 0) (nI 0) σ) ∧
  (¬ (nI 16) ≤ x2 → 
    vp_in x2 16 ∧ 
    (let σ1 : jaT := jaU σ k (jaUL (σ k) 35 0 (jaIx x2) (Int64.ofNat 0))
    jc_Wo_read_1 D kk k (x2 + (nI 1)) σ1))) :
  jc_Wo_read_1 D kk k x2 σ :=
  jaRun_go (jaCall_self jaAr jaMt D) [1, 3] 13 _ _ _ _ h
theorem jb_Wo_read_3 {D : Nat} {kk : Int32 → jaT → Prop} {σ : jaT} {k : Nat} {x2 : Int32} {x3 : Int32} (h :
  ((nI 940) < x3 → 
    (jaDe D) jy_Wo_addUntold [.inr (.inr (30, k, 0))] σ (jaKv fun σ1 =>
      kk x2 σ1)) ∧
  (¬ (nI 940) < x3 → 
    (jaDe D) jy_Rd_kind [.inr (.inr (2, 0, 0))] σ (jaKi fun r3 σ2 =>
      (r3 = (nI 1) → 
        (jaDe D) jy_Wo_addUntold [.inr (.inr (30, k, 0))] σ2 (jaKv fun σ4 =>
          kk x2 σ4)) ∧
      (¬ r3 = (nI 1) → 
        (jaDe D) jy_Wo_readLine [.inr (.inr (30, k, 0)), .inr (.inr (2, 0, 0))] σ2 (jaKi fun r6 σ5 =>
          (r6 = 0 → kk (-1 : Int32) σ5) ∧
          (¬ r6 = 0 → 
            (jaDe D) jy_Rd_take [.inr (.inr (2, 0, 0)), .inl (nI 59)] σ5 (jaKi fun r8 σ7 =>
              (¬ r8 = 0 → jc_Wo_read_3 D kk k (x2 + (nI 1)) (x3 + (nI 1)) σ7) ∧
              (r8 = 0 → kk (-1 : Int32) σ7)))))))) :
  jc_Wo_read_3 D kk k x2 x3 σ :=
  jaRun_go (jaCall_self jaAr jaMt D) [1, 3] 21 _ _ _ _ h
abbrev jm_Wo_addUntold : jaM := (jf_Wo_addUntold, jp_Wo_addUntold, 1)
theorem js_Wo_addUntold {D : Nat} {kk : jaT → Prop} {σ : jaT} {k : Nat} (h :
  (¬ ((σ k).1 30 0 2) = 0 → 
    (¬ ((σ k).1 30 0 3) = (-1 : Int32) → 
      (¬ ((σ k).1 30 0 4) = (-1 : Int32) → kk σ) ∧
      (((σ k).1 30 0 4) = (-1 : Int32) → 
        let σ1 : jaT := jaU σ k (jaUI (σ k) 30 0 4 (nI 2))
        kk σ1)) ∧
    (((σ k).1 30 0 3) = (-1 : Int32) → 
      let σ2 : jaT := jaU σ k (jaUI (σ k) 30 0 3 (nI 5))
      (¬ ((σ2 k).1 30 0 4) = (-1 : Int32) → kk σ2) ∧
      (((σ2 k).1 30 0 4) = (-1 : Int32) → 
        let σ3 : jaT := jaU σ2 k (jaUI (σ2 k) 30 0 4 (nI 2))
        kk σ3))) ∧
  (((σ k).1 30 0 2) = 0 → 
    let σ4 : jaT := jaU σ k (jaUI (σ k) 30 0 2 (nI 1))
    vp_in (nI 0) 3 ∧ 
    (let σ5 : jaT := jaU σ4 k (jaUI (σ4 k) 33 0 (jaIx (nI 0)) (nI 1))
    vp_in (nI 0) 3 ∧ ((nI 0) = 0 ∨ (nI 0) = 1) ∧ 
    (let σ6 : jaT := jaU σ5 k (jaUI (σ5 k) 34 0 (jaIx (nI 0)) (nI 0))
    (¬ ((σ6 k).1 30 0 3) = (-1 : Int32) → 
      (¬ ((σ6 k).1 30 0 4) = (-1 : Int32) → kk σ6) ∧
      (((σ6 k).1 30 0 4) = (-1 : Int32) → 
        let σ7 : jaT := jaU σ6 k (jaUI (σ6 k) 30 0 4 (nI 2))
        kk σ7)) ∧
    (((σ6 k).1 30 0 3) = (-1 : Int32) → 
      let σ8 : jaT := jaU σ6 k (jaUI (σ6 k) 30 0 3 (nI 5))
      (¬ ((σ8 k).1 30 0 4) = (-1 : Int32) → kk σ8) ∧
      (((σ8 k).1 30 0 4) = (-1 : Int32) → 
        let σ9 : jaT := jaU σ8 k (jaUI (σ8 k) 30 0 4 (nI 2))
        kk σ9)))))) :
  jaDe (D + 1) jy_Wo_addUntold [.inr (.inr (30, k, 0))] σ (jaKv kk) :=
  jaCall_intro (mt := jaMt) (y := jy_Wo_addUntold) (f := jf_Wo_addUntold) (ps := jp_Wo_addUntold) (nL := 1) rfl rfl (jaRun_go (jaCall_self jaAr jaMt D) [] 37 _ _ _ _ h)
abbrev jm_Wo_readLine : jaM := (jf_Wo_readLine, jp_Wo_readLine, 2)
theorem js_Wo_readLine {D : Nat} {kk : Int32 → jaT → Prop} {σ : jaT} {k : Nat} (h :
  (jaDe D) jy_Rd_kind [.inr (.inr (2, 0, 0))] σ (jaKi fun r2 σ1 =>
    (r2.toInt < 100 ∨ 106 < r2.toInt → 
      (jaDe D) jy_Rd_fail [.inr (.inr (2, 0, 0)), .inl (nI 1)] σ1 (jaKi fun r4 σ3 =>
        (r4 = 0 ∨ r4 = 1) ∧ kk r4 σ3)) ∧
    (r2 = nI 100 → 
      (jaDe D) jy_Wo_readSite [.inr (.inr (30, k, 0)), .inr (.inr (2, 0, 0))] σ1 (jaKi fun r6 σ5 =>
        (r6 = 0 ∨ r6 = 1) ∧ kk r6 σ5)) ∧
    (r2 = nI 101 → 
      (jaDe D) jy_Wo_readKey [.inr (.inr (30, k, 0)), .inr (.inr (2, 0, 0))] σ1 (jaKi fun r8 σ7 =>
        (r8 = 0 ∨ r8 = 1) ∧ kk r8 σ7)) ∧
    (r2 = nI 102 → 
      (jaDe D) jy_Wo_readCopy [.inr (.inr (30, k, 0)), .inr (.inr (2, 0, 0))] σ1 (jaKi fun r10 σ9 =>
        (r10 = 0 ∨ r10 = 1) ∧ kk r10 σ9)) ∧
    (r2 = nI 103 → 
      (jaDe D) jy_Rd_fail [.inr (.inr (2, 0, 0)), .inl (nI 1)] σ1 (jaKi fun r12 σ11 =>
        (r12 = 0 ∨ r12 = 1) ∧ kk r12 σ11)) ∧
    (r2 = nI 104 → 
      (jaDe D) jy_Rd_fail [.inr (.inr (2, 0, 0)), .inl (nI 1)] σ1 (jaKi fun r14 σ13 =>
        (r14 = 0 ∨ r14 = 1) ∧ kk r14 σ13)) ∧
    (r2 = nI 105 → 
      (jaDe D) jy_Wo_readEpoch [.inr (.inr (30, k, 0)), .inr (.inr (2, 0, 0))] σ1 (jaKi fun r16 σ15 =>
        (r16 = 0 ∨ r16 = 1) ∧ kk r16 σ15)) ∧
    (r2 = nI 106 → 
      (jaDe D) jy_Wo_readLink [.inr (.inr (30, k, 0)), .inr (.inr (2, 0, 0))] σ1 (jaKi fun r18 σ17 =>
        (r18 = 0 ∨ r18 = 1) ∧ kk r18 σ17)) ∧ True)) :
  jaDe (D + 1) jy_Wo_readLine [.inr (.inr (30, k, 0)), .inr (.inr (2, 0, 0))] σ (jaKi kk) :=
  jaCall_intro (mt := jaMt) (y := jy_Wo_readLine) (f := jf_Wo_readLine) (ps := jp_Wo_readLine) (nL := 2) rfl rfl (jaRun_go (jaCall_self jaAr jaMt D) [] 10 _ _ _ _ h)
abbrev jm_Wo_readSite : jaM := (jf_Wo_readSite, jp_Wo_readSite, 2)
theorem js_Wo_readSite {D : Nat} {kk : Int32 → jaT → Prop} {σ : jaT} {k : Nat} (h :
  (((σ k).1 30 0 0) < (nI 3) → 
    (jaDe D) jy_Rd_step [.inr (.inr (2, 0, 0))] σ (jaKv fun σ1 =>
      (jaDe D) jy_Wo_takeNewName [.inr (.inr (30, k, 0)), .inr (.inr (2, 0, 0)), .inl ((nI 0) + ((σ1 k).1 30 0 0))] σ1 (jaKi fun r3 σ2 =>
        (¬ r3 = 0 → 
          let σ4 : jaT := jaU σ2 k (jaUI (σ2 k) 30 0 0 (((σ2 k).1 30 0 0) + (nI 1)))
          ((nI 1) = 0 ∨ (nI 1) = 1) ∧ kk (nI 1) σ4) ∧
        (r3 = 0 → ((nI 0) = 0 ∨ (nI 0) = 1) ∧ kk (nI 0) σ2)))) ∧
  (¬ ((σ k).1 30 0 0) < (nI 3) → 
    (jaDe D) jy_Rd_fail [.inr (.inr (2, 0, 0)), .inl (nI 4)] σ (jaKi fun r6 σ5 =>
      (r6 = 0 ∨ r6 = 1) ∧ kk r6 σ5))) :
  jaDe (D + 1) jy_Wo_readSite [.inr (.inr (30, k, 0)), .inr (.inr (2, 0, 0))] σ (jaKi kk) :=
  jaCall_intro (mt := jaMt) (y := jy_Wo_readSite) (f := jf_Wo_readSite) (ps := jp_Wo_readSite) (nL := 2) rfl rfl (jaRun_go (jaCall_self jaAr jaMt D) [] 25 _ _ _ _ h)
abbrev jm_Wo_readKey : jaM := (jf_Wo_readKey, jp_Wo_readKey, 4)
set_option maxRecDepth 20000 in
theorem js_Wo_readKey {D : Nat} {kk : Int32 → jaT → Prop} {σ : jaT} {k : Nat} (h :
  (((σ k).1 30 0 1) < (nI 10) → 
    (jaDe D) jy_Rd_step [.inr (.inr (2, 0, 0))] σ (jaKv fun σ1 =>
      (jaDe D) jy_Wo_takeNewName [.inr (.inr (30, k, 0)), .inr (.inr (2, 0, 0)), .inl ((nI 3) + ((σ1 k).1 30 0 1))] σ1 (jaKi fun r3 σ2 =>
        (¬ r3 = 0 → 
          (jaDe D) jy_Wo_takeNamed [.inr (.inr (30, k, 0)), .inr (.inr (2, 0, 0)), .inl (nI 0), .inl ((σ2 k).1 30 0 0)] σ2 (jaKi fun r5 σ4 =>
            (0 ≤ r5 → 
              (jaDe D) jy_Rd_takeNumber [.inr (.inr (2, 0, 0)), .inl (nI 0), .inl (nI 999)] σ4 (jaKi fun r7 σ6 =>
                (0 ≤ r7 → 
                  vp_in ((σ6 k).1 30 0 1) 10 ∧ 
                  (let σ8 : jaT := jaU σ6 k (jaUI (σ6 k) 31 0 (jaIx ((σ6 k).1 30 0 1)) r5)
                  vp_in ((σ8 k).1 30 0 1) 10 ∧ 
                  (let σ9 : jaT := jaU σ8 k (jaUI (σ8 k) 32 0 (jaIx ((σ8 k).1 30 0 1)) r7)
                  let σ10 : jaT := jaU σ9 k (jaUI (σ9 k) 30 0 1 (((σ9 k).1 30 0 1) + (nI 1)))
                  ((nI 1) = 0 ∨ (nI 1) = 1) ∧ kk (nI 1) σ10))) ∧
                (¬ 0 ≤ r7 → ((nI 0) = 0 ∨ (nI 0) = 1) ∧ kk (nI 0) σ6))) ∧
            (¬ 0 ≤ r5 → 
              (0 ≤ (-1 : Int32) → 
                vp_in ((σ4 k).1 30 0 1) 10 ∧ 
                (let σ11 : jaT := jaU σ4 k (jaUI (σ4 k) 31 0 (jaIx ((σ4 k).1 30 0 1)) r5)
                vp_in ((σ11 k).1 30 0 1) 10 ∧ 
                (let σ12 : jaT := jaU σ11 k (jaUI (σ11 k) 32 0 (jaIx ((σ11 k).1 30 0 1)) (-1 : Int32))
                let σ13 : jaT := jaU σ12 k (jaUI (σ12 k) 30 0 1 (((σ12 k).1 30 0 1) + (nI 1)))
                ((nI 1) = 0 ∨ (nI 1) = 1) ∧ kk (nI 1) σ13))) ∧
              (¬ 0 ≤ (-1 : Int32) → ((nI 0) = 0 ∨ (nI 0) = 1) ∧ kk (nI 0) σ4)))) ∧
        (r3 = 0 → ((nI 0) = 0 ∨ (nI 0) = 1) ∧ kk (nI 0) σ2)))) ∧
  (¬ ((σ k).1 30 0 1) < (nI 10) → 
    (jaDe D) jy_Rd_fail [.inr (.inr (2, 0, 0)), .inl (nI 4)] σ (jaKi fun r15 σ14 =>
      (r15 = 0 ∨ r15 = 1) ∧ kk r15 σ14))) :
  jaDe (D + 1) jy_Wo_readKey [.inr (.inr (30, k, 0)), .inr (.inr (2, 0, 0))] σ (jaKi kk) :=
  jaCall_intro (mt := jaMt) (y := jy_Wo_readKey) (f := jf_Wo_readKey) (ps := jp_Wo_readKey) (nL := 4) rfl rfl (jaRun_go (jaCall_self jaAr jaMt D) [] 54 _ _ _ _ h)
abbrev jm_Wo_readCopy : jaM := (jf_Wo_readCopy, jp_Wo_readCopy, 4)
set_option maxRecDepth 20000 in
theorem js_Wo_readCopy {D : Nat} {kk : Int32 → jaT → Prop} {σ : jaT} {k : Nat} (h :
  (((σ k).1 30 0 2) < (nI 3) → 
    (jaDe D) jy_Rd_step [.inr (.inr (2, 0, 0))] σ (jaKv fun σ1 =>
      (jaDe D) jy_Wo_takeNewName [.inr (.inr (30, k, 0)), .inr (.inr (2, 0, 0)), .inl ((nI 13) + ((σ1 k).1 30 0 2))] σ1 (jaKi fun r3 σ2 =>
        (¬ r3 = 0 → 
          (jaDe D) jy_Rd_takeNumber [.inr (.inr (2, 0, 0)), .inl (nI 1), .inl (nI 4)] σ2 (jaKi fun r5 σ4 =>
            (0 ≤ r5 → 
              (jaDe D) jy_Rd_kind [.inr (.inr (2, 0, 0))] σ4 (jaKi fun r7 σ6 =>
                (¬ r7 = (nI 104) → 
                  (¬ (nI 0) = 0 → 
                    (jaDe D) jy_Rd_step [.inr (.inr (2, 0, 0))] σ6 (jaKv fun σ8 =>
                      vp_in ((σ8 k).1 30 0 2) 3 ∧ 
                      (let σ9 : jaT := jaU σ8 k (jaUI (σ8 k) 33 0 (jaIx ((σ8 k).1 30 0 2)) r5)
                      vp_in ((σ9 k).1 30 0 2) 3 ∧ ((nI 0) = 0 ∨ (nI 0) = 1) ∧ 
                      (let σ10 : jaT := jaU σ9 k (jaUI (σ9 k) 34 0 (jaIx ((σ9 k).1 30 0 2)) (nI 0))
                      let σ11 : jaT := jaU σ10 k (jaUI (σ10 k) 30 0 2 (((σ10 k).1 30 0 2) + (nI 1)))
                      ((nI 1) = 0 ∨ (nI 1) = 1) ∧ kk (nI 1) σ11)))) ∧
                  ((nI 0) = 0 → 
                    (jaDe D) jy_Rd_kind [.inr (.inr (2, 0, 0))] σ6 (jaKi fun r13 σ12 =>
                      (r13 = (nI 103) → 
                        (jaDe D) jy_Rd_step [.inr (.inr (2, 0, 0))] σ12 (jaKv fun σ14 =>
                          vp_in ((σ14 k).1 30 0 2) 3 ∧ 
                          (let σ15 : jaT := jaU σ14 k (jaUI (σ14 k) 33 0 (jaIx ((σ14 k).1 30 0 2)) r5)
                          vp_in ((σ15 k).1 30 0 2) 3 ∧ ((nI 0) = 0 ∨ (nI 0) = 1) ∧ 
                          (let σ16 : jaT := jaU σ15 k (jaUI (σ15 k) 34 0 (jaIx ((σ15 k).1 30 0 2)) (nI 0))
                          let σ17 : jaT := jaU σ16 k (jaUI (σ16 k) 30 0 2 (((σ16 k).1 30 0 2) + (nI 1)))
                          ((nI 1) = 0 ∨ (nI 1) = 1) ∧ kk (nI 1) σ17)))) ∧
                      (¬ r13 = (nI 103) → 
                        (jaDe D) jy_Rd_fail [.inr (.inr (2, 0, 0)), .inl (nI 1)] σ12 (jaKi fun r19 σ18 =>
                          (r19 = 0 ∨ r19 = 1) ∧ kk r19 σ18))))) ∧
                (r7 = (nI 104) → 
                  (¬ (nI 1) = 0 → 
                    (jaDe D) jy_Rd_step [.inr (.inr (2, 0, 0))] σ6 (jaKv fun σ20 =>
                      vp_in ((σ20 k).1 30 0 2) 3 ∧ 
                      (let σ21 : jaT := jaU σ20 k (jaUI (σ20 k) 33 0 (jaIx ((σ20 k).1 30 0 2)) r5)
                      vp_in ((σ21 k).1 30 0 2) 3 ∧ ((nI 1) = 0 ∨ (nI 1) = 1) ∧ 
                      (let σ22 : jaT := jaU σ21 k (jaUI (σ21 k) 34 0 (jaIx ((σ21 k).1 30 0 2)) (nI 1))
                      let σ23 : jaT := jaU σ22 k (jaUI (σ22 k) 30 0 2 (((σ22 k).1 30 0 2) + (nI 1)))
                      ((nI 1) = 0 ∨ (nI 1) = 1) ∧ kk (nI 1) σ23)))) ∧
                  ((nI 1) = 0 → 
                    (jaDe D) jy_Rd_kind [.inr (.inr (2, 0, 0))] σ6 (jaKi fun r25 σ24 =>
                      (r25 = (nI 103) → 
                        (jaDe D) jy_Rd_step [.inr (.inr (2, 0, 0))] σ24 (jaKv fun σ26 =>
                          vp_in ((σ26 k).1 30 0 2) 3 ∧ 
                          (let σ27 : jaT := jaU σ26 k (jaUI (σ26 k) 33 0 (jaIx ((σ26 k).1 30 0 2)) r5)
                          vp_in ((σ27 k).1 30 0 2) 3 ∧ ((nI 1) = 0 ∨ (nI 1) = 1) ∧ 
                          (let σ28 : jaT := jaU σ27 k (jaUI (σ27 k) 34 0 (jaIx ((σ27 k).1 30 0 2)) (nI 1))
                          let σ29 : jaT := jaU σ28 k (jaUI (σ28 k) 30 0 2 (((σ28 k).1 30 0 2) + (nI 1)))
                          ((nI 1) = 0 ∨ (nI 1) = 1) ∧ kk (nI 1) σ29)))) ∧
                      (¬ r25 = (nI 103) → 
                        (jaDe D) jy_Rd_fail [.inr (.inr (2, 0, 0)), .inl (nI 1)] σ24 (jaKi fun r31 σ30 =>
                          (r31 = 0 ∨ r31 = 1) ∧ kk r31 σ30))))))) ∧
            (¬ 0 ≤ r5 → ((nI 0) = 0 ∨ (nI 0) = 1) ∧ kk (nI 0) σ4))) ∧
        (r3 = 0 → ((nI 0) = 0 ∨ (nI 0) = 1) ∧ kk (nI 0) σ2)))) ∧
  (¬ ((σ k).1 30 0 2) < (nI 3) → 
    (jaDe D) jy_Rd_fail [.inr (.inr (2, 0, 0)), .inl (nI 4)] σ (jaKi fun r33 σ32 =>
      (r33 = 0 ∨ r33 = 1) ∧ kk r33 σ32))) :
  jaDe (D + 1) jy_Wo_readCopy [.inr (.inr (30, k, 0)), .inr (.inr (2, 0, 0))] σ (jaKi kk) :=
  jaCall_intro (mt := jaMt) (y := jy_Wo_readCopy) (f := jf_Wo_readCopy) (ps := jp_Wo_readCopy) (nL := 4) rfl rfl (jaRun_go (jaCall_self jaAr jaMt D) [] 59 _ _ _ _ h)
abbrev jm_Wo_readEpoch : jaM := (jf_Wo_readEpoch, jp_Wo_readEpoch, 2)
theorem js_Wo_readEpoch {D : Nat} {kk : Int32 → jaT → Prop} {σ : jaT} {k : Nat} (h :
  (((σ k).1 30 0 3) = (-1 : Int32) → 
    (jaDe D) jy_Rd_step [.inr (.inr (2, 0, 0))] σ (jaKv fun σ1 =>
      (jaDe D) jy_Rd_takeNumber [.inr (.inr (2, 0, 0)), .inl (nI 1), .inl (nI 20)] σ1 (jaKi fun r3 σ2 =>
        let σ4 : jaT := jaU σ2 k (jaUI (σ2 k) 30 0 3 r3)
        (((σ4 k).1 30 0 3) < 0 → ((nI 0) = 0 ∨ (nI 0) = 1) ∧ kk (nI 0) σ4) ∧
        (¬ ((σ4 k).1 30 0 3) < 0 → ((nI 1) = 0 ∨ (nI 1) = 1) ∧ kk (nI 1) σ4)))) ∧
  (¬ ((σ k).1 30 0 3) = (-1 : Int32) → 
    (jaDe D) jy_Rd_fail [.inr (.inr (2, 0, 0)), .inl (nI 3)] σ (jaKi fun r6 σ5 =>
      (r6 = 0 ∨ r6 = 1) ∧ kk r6 σ5))) :
  jaDe (D + 1) jy_Wo_readEpoch [.inr (.inr (30, k, 0)), .inr (.inr (2, 0, 0))] σ (jaKi kk) :=
  jaCall_intro (mt := jaMt) (y := jy_Wo_readEpoch) (f := jf_Wo_readEpoch) (ps := jp_Wo_readEpoch) (nL := 2) rfl rfl (jaRun_go (jaCall_self jaAr jaMt D) [] 21 _ _ _ _ h)
abbrev jm_Wo_readLink : jaM := (jf_Wo_readLink, jp_Wo_readLink, 2)
theorem js_Wo_readLink {D : Nat} {kk : Int32 → jaT → Prop} {σ : jaT} {k : Nat} (h :
  (((σ k).1 30 0 4) = (-1 : Int32) → 
    (jaDe D) jy_Rd_step [.inr (.inr (2, 0, 0))] σ (jaKv fun σ1 =>
      (jaDe D) jy_Rd_takeNumber [.inr (.inr (2, 0, 0)), .inl (nI 0), .inl (nI 9)] σ1 (jaKi fun r3 σ2 =>
        let σ4 : jaT := jaU σ2 k (jaUI (σ2 k) 30 0 4 r3)
        (((σ4 k).1 30 0 4) < 0 → ((nI 0) = 0 ∨ (nI 0) = 1) ∧ kk (nI 0) σ4) ∧
        (¬ ((σ4 k).1 30 0 4) < 0 → ((nI 1) = 0 ∨ (nI 1) = 1) ∧ kk (nI 1) σ4)))) ∧
  (¬ ((σ k).1 30 0 4) = (-1 : Int32) → 
    (jaDe D) jy_Rd_fail [.inr (.inr (2, 0, 0)), .inl (nI 3)] σ (jaKi fun r6 σ5 =>
      (r6 = 0 ∨ r6 = 1) ∧ kk r6 σ5))) :
  jaDe (D + 1) jy_Wo_readLink [.inr (.inr (30, k, 0)), .inr (.inr (2, 0, 0))] σ (jaKi kk) :=
  jaCall_intro (mt := jaMt) (y := jy_Wo_readLink) (f := jf_Wo_readLink) (ps := jp_Wo_readLink) (nL := 2) rfl rfl (jaRun_go (jaCall_self jaAr jaMt D) [] 21 _ _ _ _ h)
abbrev jm_Wo_takeNewName : jaM := (jf_Wo_takeNewName, jp_Wo_takeNewName, 3)
theorem js_Wo_takeNewName {D : Nat} {kk : Int32 → jaT → Prop} {σ : jaT} {k : Nat} {x2 : Int32} (h :
  (jaDe D) jy_Rd_kind [.inr (.inr (2, 0, 0))] σ (jaKi fun r2 σ1 =>
    (r2 = (nI 3) → 
      (x2 < 0 → 
        (jaDe D) jy_Rd_fail [.inr (.inr (2, 0, 0)), .inl (nI 3)] σ1 (jaKi fun r4 σ3 =>
          (r4 = 0 ∨ r4 = 1) ∧ kk r4 σ3)) ∧
      (¬ x2 < 0 → 
        ((nI 16) ≤ x2 → 
          (jaDe D) jy_Rd_fail [.inr (.inr (2, 0, 0)), .inl (nI 3)] σ1 (jaKi fun r6 σ5 =>
            (r6 = 0 ∨ r6 = 1) ∧ kk r6 σ5)) ∧
        (¬ (nI 16) ≤ x2 → 
          (jaDe D) jy_Rd_content [.inr (.inr (2, 0, 0))] σ1 (jaKl fun r8 σ7 =>
            (jaDe D) jy_Wo_slotOf [.inr (.inr (30, k, 0)), .inr (.inl r8), .inl (nI 0), .inl (nI 16)] σ7 (jaKi fun r10 σ9 =>
              (r10 < 0 → 
                (jaDe D) jy_Rd_content [.inr (.inr (2, 0, 0))] σ9 (jaKl fun r12 σ11 =>
                  vp_in x2 16 ∧ 
                  (let σ13 : jaT := jaU σ11 k (jaUL (σ11 k) 35 0 (jaIx x2) r12)
                  (jaDe D) jy_Rd_step [.inr (.inr (2, 0, 0))] σ13 (jaKv fun σ14 =>
                    ((nI 1) = 0 ∨ (nI 1) = 1) ∧ kk (nI 1) σ14)))) ∧
              (¬ r10 < 0 → 
                (jaDe D) jy_Rd_fail [.inr (.inr (2, 0, 0)), .inl (nI 3)] σ9 (jaKi fun r16 σ15 =>
                  (r16 = 0 ∨ r16 = 1) ∧ kk r16 σ15))))))) ∧
    (¬ r2 = (nI 3) → 
      (jaDe D) jy_Rd_fail [.inr (.inr (2, 0, 0)), .inl (nI 1)] σ1 (jaKi fun r18 σ17 =>
        (r18 = 0 ∨ r18 = 1) ∧ kk r18 σ17)))) :
  jaDe (D + 1) jy_Wo_takeNewName [.inr (.inr (30, k, 0)), .inr (.inr (2, 0, 0)), .inl x2] σ (jaKi kk) :=
  jaCall_intro (mt := jaMt) (y := jy_Wo_takeNewName) (f := jf_Wo_takeNewName) (ps := jp_Wo_takeNewName) (nL := 3) rfl rfl (jaRun_go (jaCall_self jaAr jaMt D) [] 29 _ _ _ _ h)
abbrev jm_Wo_slotOf : jaM := (jf_Wo_slotOf, jp_Wo_slotOf, 6)
def jc_Wo_slotOf_1 (D : Nat) (kk : Int32 → jaT → Prop) (k : Nat) (x1 : Int64) (x3 : Int32) (x4 : Int32) (x5 : Int32) (σ : jaT) : Prop := jaC (jaDe D) jm_Wo_slotOf (jaKi kk) 1 [some (.inr (.inr (30, k, 0))), some (.inr (.inl x1)), none, some (.inl x3), some (.inl x4), some (.inl x5)] [] σ
theorem js_Wo_slotOf {D : Nat} {kk : Int32 → jaT → Prop} {σ : jaT} {k : Nat} {x1 : Int64} {x3 : Int32} {x4 : Int32} (h :
  jc_Wo_slotOf_1 D kk k x1 x3 x4 (nI 0) σ) :
  jaDe (D + 1) jy_Wo_slotOf [.inr (.inr (30, k, 0)), .inr (.inl x1), .inl x3, .inl x4] σ (jaKi kk) :=
  jaCall_intro (mt := jaMt) (y := jy_Wo_slotOf) (f := jf_Wo_slotOf) (ps := jp_Wo_slotOf) (nL := 6) rfl rfl (jaRun_go (jaCall_self jaAr jaMt D) [1] 6 _ _ _ _ h)
theorem jb_Wo_slotOf_1 {D : Nat} {kk : Int32 → jaT → Prop} {σ : jaT} {k : Nat} {x1 : Int64} {x3 : Int32} {x4 : Int32} {x5 : Int32} (h :
  (x4 ≤ x5 → kk (-1 : Int32) σ) ∧
  (¬ x4 ≤ x5 → 
    ((nI 16) ≤ (x3 + x5) → kk (-1 : Int32) σ) ∧
    (¬ (nI 16) ≤ (x3 + x5) → 
      vp_in (x3 + x5) 16 ∧ ((¬ (lg_cmp ((σ k).2 35 0 (jaIx (x3 + x5))) x1) = 0 → jc_Wo_slotOf_1 D kk k x1 x3 x4 (x5 + (nI 1)) σ) ∧
      ((lg_cmp ((σ k).2 35 0 (jaIx (x3 + x5))) x1) = 0 → kk x5 σ))))) :
  jc_Wo_slotOf_1 D kk k x1 x3 x4 x5 σ :=
  jaRun_go (jaCall_self jaAr jaMt D) [1] 22 _ _ _ _ h
abbrev jm_Wo_takeNamed : jaM := (jf_Wo_takeNamed, jp_Wo_takeNamed, 5)
theorem js_Wo_takeNamed {D : Nat} {kk : Int32 → jaT → Prop} {σ : jaT} {k : Nat} {x2 : Int32} {x3 : Int32} (h :
  (jaDe D) jy_Rd_kind [.inr (.inr (2, 0, 0))] σ (jaKi fun r2 σ1 =>
    (r2 = (nI 3) → 
      (jaDe D) jy_Rd_content [.inr (.inr (2, 0, 0))] σ1 (jaKl fun r4 σ3 =>
        (jaDe D) jy_Wo_slotOf [.inr (.inr (30, k, 0)), .inr (.inl r4), .inl x2, .inl x3] σ3 (jaKi fun r6 σ5 =>
          (0 ≤ r6 → 
            (jaDe D) jy_Rd_step [.inr (.inr (2, 0, 0))] σ5 (jaKv fun σ7 =>
              kk r6 σ7)) ∧
          (¬ 0 ≤ r6 → 
            (jaDe D) jy_Rd_fail [.inr (.inr (2, 0, 0)), .inl (nI 3)] σ5 (jaKi fun r9 σ8 =>
              kk (-1 : Int32) σ8))))) ∧
    (¬ r2 = (nI 3) → 
      (jaDe D) jy_Rd_fail [.inr (.inr (2, 0, 0)), .inl (nI 1)] σ1 (jaKi fun r11 σ10 =>
        kk (-1 : Int32) σ10)))) :
  jaDe (D + 1) jy_Wo_takeNamed [.inr (.inr (30, k, 0)), .inr (.inr (2, 0, 0)), .inl x2, .inl x3] σ (jaKi kk) :=
  jaCall_intro (mt := jaMt) (y := jy_Wo_takeNamed) (f := jf_Wo_takeNamed) (ps := jp_Wo_takeNamed) (nL := 5) rfl rfl (jaRun_go (jaCall_self jaAr jaMt D) [] 22 _ _ _ _ h)
abbrev jm_Wo_isKeyNext : jaM := (jf_Wo_isKeyNext, jp_Wo_isKeyNext, 2)
theorem js_Wo_isKeyNext {D : Nat} {kk : Int32 → jaT → Prop} {σ : jaT} {k : Nat} (h :
  (jaDe D) jy_Rd_kind [.inr (.inr (2, 0, 0))] σ (jaKi fun r2 σ1 =>
    (¬ r2 = (nI 3) → ((nI 0) = 0 ∨ (nI 0) = 1) ∧ kk (nI 0) σ1) ∧
    (r2 = (nI 3) → 
      (jaDe D) jy_Rd_content [.inr (.inr (2, 0, 0))] σ1 (jaKl fun r4 σ3 =>
        (jaDe D) jy_Wo_slotOf [.inr (.inr (30, k, 0)), .inr (.inl r4), .inl (nI 3), .inl ((σ3 k).1 30 0 1)] σ3 (jaKi fun r6 σ5 =>
          (r6 < 0 → ((nI 0) = 0 ∨ (nI 0) = 1) ∧ kk (nI 0) σ5) ∧
          (¬ r6 < 0 → ((nI 1) = 0 ∨ (nI 1) = 1) ∧ kk (nI 1) σ5)))))) :
  jaDe (D + 1) jy_Wo_isKeyNext [.inr (.inr (30, k, 0)), .inr (.inr (2, 0, 0))] σ (jaKi kk) :=
  jaCall_intro (mt := jaMt) (y := jy_Wo_isKeyNext) (f := jf_Wo_isKeyNext) (ps := jp_Wo_isKeyNext) (nL := 2) rfl rfl (jaRun_go (jaCall_self jaAr jaMt D) [] 18 _ _ _ _ h)
abbrev jm_Wo_isWide : jaM := (jf_Wo_isWide, jp_Wo_isWide, 4)
def jc_Wo_isWide_1 (D : Nat) (kk : Int32 → jaT → Prop) (k : Nat) (x1 : Int32) (x2 : Int32) (x3 : Int32) (σ : jaT) : Prop := jaC (jaDe D) jm_Wo_isWide (jaKi kk) 1 [some (.inr (.inr (30, k, 0))), some (.inl x1), some (.inl x2), some (.inl x3)] [] σ
theorem js_Wo_isWide {D : Nat} {kk : Int32 → jaT → Prop} {σ : jaT} {k : Nat} {x1 : Int32} (h :
  jc_Wo_isWide_1 D kk k x1 (-1 : Int32) (nI 0) σ) :
  jaDe (D + 1) jy_Wo_isWide [.inr (.inr (30, k, 0)), .inl x1] σ (jaKi kk) :=
  jaCall_intro (mt := jaMt) (y := jy_Wo_isWide) (f := jf_Wo_isWide) (ps := jp_Wo_isWide) (nL := 4) rfl rfl (jaRun_go (jaCall_self jaAr jaMt D) [1] 8 _ _ _ _ h)
theorem jb_Wo_isWide_1 {D : Nat} {kk : Int32 → jaT → Prop} {σ : jaT} {k : Nat} {x1 : Int32} {x2 : Int32} {x3 : Int32} (h :
  (((σ k).1 30 0 1) ≤ x3 → ((nI 0) = 0 ∨ (nI 0) = 1) ∧ kk (nI 0) σ) ∧
  (¬ ((σ k).1 30 0 1) ≤ x3 → 
    (¬ (((Int32.toUInt32 x1 >>> (Int32.toUInt32 x3 &&& Int32.toUInt32 31)).toInt32) &&& (nI 1)) = (nI 1) → jc_Wo_isWide_1 D kk k x1 x2 (x3 + (nI 1)) σ) ∧
    ((((Int32.toUInt32 x1 >>> (Int32.toUInt32 x3 &&& Int32.toUInt32 31)).toInt32) &&& (nI 1)) = (nI 1) → 
      (x2 = (-1 : Int32) → 
        vp_in x3 10 ∧ jc_Wo_isWide_1 D kk k x1 ((σ k).1 31 0 (jaIx x3)) (x3 + (nI 1)) σ) ∧
      (¬ x2 = (-1 : Int32) → 
        vp_in x3 10 ∧ ((((σ k).1 31 0 (jaIx x3)) = x2 → 
          vp_in x3 10 ∧ jc_Wo_isWide_1 D kk k x1 ((σ k).1 31 0 (jaIx x3)) (x3 + (nI 1)) σ) ∧
        (¬ ((σ k).1 31 0 (jaIx x3)) = x2 → ((nI 1) = 0 ∨ (nI 1) = 1) ∧ kk (nI 1) σ)))))) :
  jc_Wo_isWide_1 D kk k x1 x2 x3 σ :=
  jaRun_go (jaCall_self jaAr jaMt D) [1] 31 _ _ _ _ h
abbrev jm_JM_floorMod : jaM := (jf_JM_floorMod, jp_JM_floorMod, 3)
theorem js_JM_floorMod {D : Nat} {kk : Int32 → jaT → Prop} {σ : jaT} {x0 : Int32} {x1 : Int32} (h :
  ¬ x1 = 0 ∧ ((0 ≤ (x0 ^^^ x1) → kk (x0 - x0 / x1 * x1) σ) ∧
  (¬ 0 ≤ (x0 ^^^ x1) → 
    ((x0 - x0 / x1 * x1) = 0 → kk (x0 - x0 / x1 * x1) σ) ∧
    (¬ (x0 - x0 / x1 * x1) = 0 → kk ((x0 - x0 / x1 * x1) + x1) σ)))) :
  jaDe (D + 1) jy_JM_floorMod [.inl x0, .inl x1] σ (jaKi kk) :=
  jaCall_intro (mt := jaMt) (y := jy_JM_floorMod) (f := jf_JM_floorMod) (ps := jp_JM_floorMod) (nL := 3) rfl rfl (jaRun_go (jaCall_self jaAr jaMt D) [] 17 _ _ _ _ h)
abbrev jm_JM_max : jaM := (jf_JM_max, jp_JM_max, 2)
theorem js_JM_max {D : Nat} {kk : Int32 → jaT → Prop} {σ : jaT} {x0 : Int32} {x1 : Int32} (h :
  (x0 < x1 → kk x1 σ) ∧
  (¬ x0 < x1 → kk x0 σ)) :
  jaDe (D + 1) jy_JM_max [.inl x0, .inl x1] σ (jaKi kk) :=
  jaCall_intro (mt := jaMt) (y := jy_JM_max) (f := jf_JM_max) (ps := jp_JM_max) (nL := 2) rfl rfl (jaRun_go (jaCall_self jaAr jaMt D) [] 9 _ _ _ _ h)
abbrev jm_JM_min : jaM := (jf_JM_min, jp_JM_min, 2)
theorem js_JM_min {D : Nat} {kk : Int32 → jaT → Prop} {σ : jaT} {x0 : Int32} {x1 : Int32} (h :
  (x1 < x0 → kk x1 σ) ∧
  (¬ x1 < x0 → kk x0 σ)) :
  jaDe (D + 1) jy_JM_min [.inl x0, .inl x1] σ (jaKi kk) :=
  jaCall_intro (mt := jaMt) (y := jy_JM_min) (f := jf_JM_min) (ps := jp_JM_min) (nL := 2) rfl rfl (jaRun_go (jaCall_self jaAr jaMt D) [] 9 _ _ _ _ h)
abbrev jm_JS_charAtW : jaM := (jf_JS_charAtW, jp_JS_charAtW, 2)
theorem js_JS_charAtW {D : Nat} {kk : Int32 → jaT → Prop} {σ : jaT} {x1 : Int32} (h :
  (jaDe D) jy_JS_isLatin1W [.inr (.inr (102, 24, 0))] σ (jaKi fun r2 σ1 =>
    (r2 = 0 → False) ∧
    (¬ r2 = 0 → 
      (jaDe D) jy_JL_charAt [.inr (.inr (103, 24, 0)), .inl x1] σ1 (jaKi fun r4 σ3 =>
        (Int32.toUInt32 r4 % 65536).toInt32 = r4 ∧ kk r4 σ3)))) :
  jaDe (D + 1) jy_JS_charAtW [.inr (.inr (102, 24, 0)), .inl x1] σ (jaKi kk) :=
  jaCall_intro (mt := jaMt) (y := jy_JS_charAtW) (f := jf_JS_charAtW) (ps := jp_JS_charAtW) (nL := 2) rfl rfl (jaRun_go (jaCall_self jaAr jaMt D) [] 11 _ _ _ _ h)
abbrev jm_JS_checkIndex : jaM := (jf_JS_checkIndex, jp_JS_checkIndex, 2)
theorem js_JS_checkIndex {D : Nat} {kk : jaT → Prop} {σ : jaT} {x0 : Int32} {x1 : Int32} (h :
  (jaDe D) jy_JP_checkIndex [.inl x0, .inl x1, .inr (.inr (104, 25, 0))] σ (jaKi fun r2 σ1 =>
    kk σ1)) :
  jaDe (D + 1) jy_JS_checkIndex [.inl x0, .inl x1] σ (jaKv kk) :=
  jaCall_intro (mt := jaMt) (y := jy_JS_checkIndex) (f := jf_JS_checkIndex) (ps := jp_JS_checkIndex) (nL := 2) rfl rfl (jaRun_go (jaCall_self jaAr jaMt D) [] 9 _ _ _ _ h)
abbrev jm_JS_coderS : jaM := (jf_JS_coderS, jp_JS_coderS, 1)
theorem js_JS_coderS {D : Nat} {kk : Int32 → jaT → Prop} {σ : jaT}  (h :
  ((nI 1) = 0 → (Int32.toInt8 (nI 1)).toInt32 = (nI 1) ∧ kk (nI 1) σ) ∧
  (¬ (nI 1) = 0 → (Int32.toInt8 (nI 0)).toInt32 = (nI 0) ∧ kk (nI 0) σ)) :
  jaDe (D + 1) jy_JS_coderS [.inr (.inr (100, 23, 0))] σ (jaKi kk) :=
  jaCall_intro (mt := jaMt) (y := jy_JS_coderS) (f := jf_JS_coderS) (ps := jp_JS_coderS) (nL := 1) rfl rfl (jaRun_go (jaCall_self jaAr jaMt D) [] 9 _ _ _ _ h)
abbrev jm_JS_coderW : jaM := (jf_JS_coderW, jp_JS_coderW, 1)
theorem js_JS_coderW {D : Nat} {kk : Int32 → jaT → Prop} {σ : jaT}  (h :
  ((nI 1) = 0 → (Int32.toInt8 (nI 1)).toInt32 = (nI 1) ∧ kk (nI 1) σ) ∧
  (¬ (nI 1) = 0 → (Int32.toInt8 (nI 0)).toInt32 = (nI 0) ∧ kk (nI 0) σ)) :
  jaDe (D + 1) jy_JS_coderW [.inr (.inr (102, 24, 0))] σ (jaKi kk) :=
  jaCall_intro (mt := jaMt) (y := jy_JS_coderW) (f := jf_JS_coderW) (ps := jp_JS_coderW) (nL := 1) rfl rfl (jaRun_go (jaCall_self jaAr jaMt D) [] 9 _ _ _ _ h)
abbrev jm_JS_indexOfS : jaM := (jf_JS_indexOfS, jp_JS_indexOfS, 2)
theorem js_JS_indexOfS {D : Nat} {kk : Int32 → jaT → Prop} {σ : jaT} {x1 : Int32} (h :
  (jaDe D) jy_JS_indexOf2S [.inr (.inr (100, 23, 0)), .inl x1, .inl (nI 0)] σ (jaKi fun r2 σ1 =>
    kk r2 σ1)) :
  jaDe (D + 1) jy_JS_indexOfS [.inr (.inr (100, 23, 0)), .inl x1] σ (jaKi kk) :=
  jaCall_intro (mt := jaMt) (y := jy_JS_indexOfS) (f := jf_JS_indexOfS) (ps := jp_JS_indexOfS) (nL := 2) rfl rfl (jaRun_go (jaCall_self jaAr jaMt D) [] 8 _ _ _ _ h)
abbrev jm_JS_indexOf2S : jaM := (jf_JS_indexOf2S, jp_JS_indexOf2S, 3)
theorem js_JS_indexOf2S {D : Nat} {kk : Int32 → jaT → Prop} {σ : jaT} {x1 : Int32} {x2 : Int32} (h :
  (jaDe D) jy_JS_isLatin1S [.inr (.inr (100, 23, 0))] σ (jaKi fun r2 σ1 =>
    (r2 = 0 → 
      (jaDe D) jy_JS_lengthS [.inr (.inr (100, 23, 0))] σ1 (jaKi fun r4 σ3 =>
        False)) ∧
    (¬ r2 = 0 → 
      (jaDe D) jy_JS_lengthS [.inr (.inr (100, 23, 0))] σ1 (jaKi fun r6 σ5 =>
        (jaDe D) jy_JL_indexOf [.inr (.inr (101, 23, 0)), .inl x1, .inl x2, .inl r6] σ5 (jaKi fun r8 σ7 =>
          kk r8 σ7))))) :
  jaDe (D + 1) jy_JS_indexOf2S [.inr (.inr (100, 23, 0)), .inl x1, .inl x2] σ (jaKi kk) :=
  jaCall_intro (mt := jaMt) (y := jy_JS_indexOf2S) (f := jf_JS_indexOf2S) (ps := jp_JS_indexOf2S) (nL := 3) rfl rfl (jaRun_go (jaCall_self jaAr jaMt D) [] 15 _ _ _ _ h)
abbrev jm_JS_isLatin1S : jaM := (jf_JS_isLatin1S, jp_JS_isLatin1S, 1)
theorem js_JS_isLatin1S {D : Nat} {kk : Int32 → jaT → Prop} {σ : jaT}  (h :
  ((nI 1) = 0 → ((nI 0) = 0 ∨ (nI 0) = 1) ∧ kk (nI 0) σ) ∧
  (¬ (nI 1) = 0 → 
    (¬ (nI 0) = 0 → ((nI 0) = 0 ∨ (nI 0) = 1) ∧ kk (nI 0) σ) ∧
    ((nI 0) = 0 → ((nI 1) = 0 ∨ (nI 1) = 1) ∧ kk (nI 1) σ))) :
  jaDe (D + 1) jy_JS_isLatin1S [.inr (.inr (100, 23, 0))] σ (jaKi kk) :=
  jaCall_intro (mt := jaMt) (y := jy_JS_isLatin1S) (f := jf_JS_isLatin1S) (ps := jp_JS_isLatin1S) (nL := 1) rfl rfl (jaRun_go (jaCall_self jaAr jaMt D) [] 11 _ _ _ _ h)
abbrev jm_JS_isLatin1W : jaM := (jf_JS_isLatin1W, jp_JS_isLatin1W, 1)
theorem js_JS_isLatin1W {D : Nat} {kk : Int32 → jaT → Prop} {σ : jaT}  (h :
  ((nI 1) = 0 → ((nI 0) = 0 ∨ (nI 0) = 1) ∧ kk (nI 0) σ) ∧
  (¬ (nI 1) = 0 → 
    (¬ (nI 0) = 0 → ((nI 0) = 0 ∨ (nI 0) = 1) ∧ kk (nI 0) σ) ∧
    ((nI 0) = 0 → ((nI 1) = 0 ∨ (nI 1) = 1) ∧ kk (nI 1) σ))) :
  jaDe (D + 1) jy_JS_isLatin1W [.inr (.inr (102, 24, 0))] σ (jaKi kk) :=
  jaCall_intro (mt := jaMt) (y := jy_JS_isLatin1W) (f := jf_JS_isLatin1W) (ps := jp_JS_isLatin1W) (nL := 1) rfl rfl (jaRun_go (jaCall_self jaAr jaMt D) [] 11 _ _ _ _ h)
abbrev jm_JS_lengthS : jaM := (jf_JS_lengthS, jp_JS_lengthS, 1)
theorem js_JS_lengthS {D : Nat} {kk : Int32 → jaT → Prop} {σ : jaT}  (h :
  (jaDe D) jy_JS_coderS [.inr (.inr (100, 23, 0))] σ (jaKi fun r2 σ1 =>
    kk ((nI 9) >>> (r2 &&& 31)) σ1)) :
  jaDe (D + 1) jy_JS_lengthS [.inr (.inr (100, 23, 0))] σ (jaKi kk) :=
  jaCall_intro (mt := jaMt) (y := jy_JS_lengthS) (f := jf_JS_lengthS) (ps := jp_JS_lengthS) (nL := 1) rfl rfl (jaRun_go (jaCall_self jaAr jaMt D) [] 10 _ _ _ _ h)
abbrev jm_JS_lengthW : jaM := (jf_JS_lengthW, jp_JS_lengthW, 1)
theorem js_JS_lengthW {D : Nat} {kk : Int32 → jaT → Prop} {σ : jaT}  (h :
  (jaDe D) jy_JS_coderW [.inr (.inr (102, 24, 0))] σ (jaKi fun r2 σ1 =>
    kk ((nI 158) >>> (r2 &&& 31)) σ1)) :
  jaDe (D + 1) jy_JS_lengthW [.inr (.inr (102, 24, 0))] σ (jaKi kk) :=
  jaCall_intro (mt := jaMt) (y := jy_JS_lengthW) (f := jf_JS_lengthW) (ps := jp_JS_lengthW) (nL := 1) rfl rfl (jaRun_go (jaCall_self jaAr jaMt D) [] 10 _ _ _ _ h)
abbrev jm_JL_canEncode : jaM := (jf_JL_canEncode, jp_JL_canEncode, 1)
theorem js_JL_canEncode {D : Nat} {kk : Int32 → jaT → Prop} {σ : jaT} {x0 : Int32} (h :
  (x0 < 0 → ((nI 0) = 0 ∨ (nI 0) = 1) ∧ kk (nI 0) σ) ∧
  (¬ x0 < 0 → 
    ((nI 255) < x0 → ((nI 0) = 0 ∨ (nI 0) = 1) ∧ kk (nI 0) σ) ∧
    (¬ (nI 255) < x0 → ((nI 1) = 0 ∨ (nI 1) = 1) ∧ kk (nI 1) σ))) :
  jaDe (D + 1) jy_JL_canEncode [.inl x0] σ (jaKi kk) :=
  jaCall_intro (mt := jaMt) (y := jy_JL_canEncode) (f := jf_JL_canEncode) (ps := jp_JL_canEncode) (nL := 1) rfl rfl (jaRun_go (jaCall_self jaAr jaMt D) [] 11 _ _ _ _ h)
abbrev jm_JL_charAt : jaM := (jf_JL_charAt, jp_JL_charAt, 2)
theorem js_JL_charAt {D : Nat} {kk : Int32 → jaT → Prop} {σ : jaT} {x1 : Int32} (h :
  (jaDe D) jy_JS_checkIndex [.inl x1, .inl (nI 158)] σ (jaKv fun σ1 =>
    vp_in x1 158 ∧ ((Int32.toUInt32 ((Int32.toUInt32 ((Int32.ofNat (jaN 0 (jaN [] jaStr 1) (jaIx x1))) &&& (nI 255)) % 65536).toInt32) % 65536).toInt32 = ((Int32.toUInt32 ((Int32.ofNat (jaN 0 (jaN [] jaStr 1) (jaIx x1))) &&& (nI 255)) % 65536).toInt32) ∧ kk ((Int32.toUInt32 ((Int32.ofNat (jaN 0 (jaN [] jaStr 1) (jaIx x1))) &&& (nI 255)) % 65536).toInt32) σ1))) :
  jaDe (D + 1) jy_JL_charAt [.inr (.inr (103, 24, 0)), .inl x1] σ (jaKi kk) :=
  jaCall_intro (mt := jaMt) (y := jy_JL_charAt) (f := jf_JL_charAt) (ps := jp_JL_charAt) (nL := 2) rfl rfl (jaRun_go (jaCall_self jaAr jaMt D) [] 14 _ _ _ _ h)
abbrev jm_JL_indexOf : jaM := (jf_JL_indexOf, jp_JL_indexOf, 4)
theorem js_JL_indexOf {D : Nat} {kk : Int32 → jaT → Prop} {σ : jaT} {x1 : Int32} {x2 : Int32} {x3 : Int32} (h :
  (jaDe D) jy_JL_canEncode [.inl x1] σ (jaKi fun r2 σ1 =>
    (¬ r2 = 0 → 
      (jaDe D) jy_JM_max [.inl x2, .inl (nI 0)] σ1 (jaKi fun r4 σ3 =>
        (jaDe D) jy_JM_min [.inl x3, .inl (nI 9)] σ3 (jaKi fun r6 σ5 =>
          (r4 < r6 → 
            (jaDe D) jy_JL_indexOfChar [.inr (.inr (101, 23, 0)), .inl x1, .inl r4, .inl r6] σ5 (jaKi fun r8 σ7 =>
              kk r8 σ7)) ∧
          (¬ r4 < r6 → kk (-1 : Int32) σ5)))) ∧
    (r2 = 0 → kk (-1 : Int32) σ1))) :
  jaDe (D + 1) jy_JL_indexOf [.inr (.inr (101, 23, 0)), .inl x1, .inl x2, .inl x3] σ (jaKi kk) :=
  jaCall_intro (mt := jaMt) (y := jy_JL_indexOf) (f := jf_JL_indexOf) (ps := jp_JL_indexOf) (nL := 4) rfl rfl (jaRun_go (jaCall_self jaAr jaMt D) [] 24 _ _ _ _ h)
abbrev jm_JL_indexOfChar : jaM := (jf_JL_indexOfChar, jp_JL_indexOfChar, 6)
def jc_JL_indexOfChar_1 (D : Nat) (kk : Int32 → jaT → Prop) (x1 : Int32) (x2 : Int32) (x3 : Int32) (x4 : Int32) (x5 : Int32) (σ : jaT) : Prop := jaC (jaDe D) jm_JL_indexOfChar (jaKi kk) 1 [some (.inr (.inr (101, 23, 0))), some (.inl x1), some (.inl x2), some (.inl x3), some (.inl x4), some (.inl x5)] [] σ
theorem js_JL_indexOfChar {D : Nat} {kk : Int32 → jaT → Prop} {σ : jaT} {x1 : Int32} {x2 : Int32} {x3 : Int32} (h :
  jc_JL_indexOfChar_1 D kk x1 x2 x3 ((Int32.toInt8 x1).toInt32) x2 σ) :
  jaDe (D + 1) jy_JL_indexOfChar [.inr (.inr (101, 23, 0)), .inl x1, .inl x2, .inl x3] σ (jaKi kk) :=
  jaCall_intro (mt := jaMt) (y := jy_JL_indexOfChar) (f := jf_JL_indexOfChar) (ps := jp_JL_indexOfChar) (nL := 6) rfl rfl (jaRun_go (jaCall_self jaAr jaMt D) [1] 9 _ _ _ _ h)
theorem jb_JL_indexOfChar_1 {D : Nat} {kk : Int32 → jaT → Prop} {σ : jaT} {x1 : Int32} {x2 : Int32} {x3 : Int32} {x4 : Int32} {x5 : Int32} (h :
  (x3 ≤ x5 → kk (-1 : Int32) σ) ∧
  (¬ x3 ≤ x5 → 
    vp_in x5 9 ∧ ((¬ (Int32.ofNat (jaN 0 (jaN [] jaStr 0) (jaIx x5))) = x4 → jc_JL_indexOfChar_1 D kk x1 x2 x3 x4 (x5 + (nI 1)) σ) ∧
    ((Int32.ofNat (jaN 0 (jaN [] jaStr 0) (jaIx x5))) = x4 → kk x5 σ)))) :
  jc_JL_indexOfChar_1 D kk x1 x2 x3 x4 x5 σ :=
  jaRun_go (jaCall_self jaAr jaMt D) [1] 13 _ _ _ _ h
abbrev jm_JP_checkIndex : jaM := (jf_JP_checkIndex, jp_JP_checkIndex, 3)
theorem js_JP_checkIndex {D : Nat} {kk : Int32 → jaT → Prop} {σ : jaT} {x0 : Int32} {x1 : Int32} (h :
  (x0 < 0 → False) ∧
  (¬ x0 < 0 → 
    (x0 < x1 → kk x0 σ) ∧
    (¬ x0 < x1 → False))) :
  jaDe (D + 1) jy_JP_checkIndex [.inl x0, .inl x1, .inr (.inr (104, 25, 0))] σ (jaKi kk) :=
  jaCall_intro (mt := jaMt) (y := jy_JP_checkIndex) (f := jf_JP_checkIndex) (ps := jp_JP_checkIndex) (nL := 3) rfl rfl (jaRun_go (jaCall_self jaAr jaMt D) [] 13 _ _ _ _ h)
end
