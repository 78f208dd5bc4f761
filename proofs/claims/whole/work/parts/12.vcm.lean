section
abbrev jm_M_thrown : jaM := (jf_M_thrown, jp_M_thrown, 1)
theorem js_M_thrown {D : Nat} {kk : Int32 → jaT → Prop} {σ : jaT}  (h :
  kk ((σ 20).1 70 0 0) σ) :
  jaDe (D + 1) jy_M_thrown [.inr (.inr (70, 20, 0))] σ (jaKi kk) :=
  jaCall_intro (mt := jaMt) (y := jy_M_thrown) (f := jf_M_thrown) (ps := jp_M_thrown) (nL := 1) rfl rfl (jaRun_go (jaCall_self jaAr jaMt D) [] 6 _ _ _ _ h)
abbrev jm_M_throwsIf : jaM := (jf_M_throwsIf, jp_M_throwsIf, 2)
theorem js_M_throwsIf {D : Nat} {kk : Int32 → jaT → Prop} {σ : jaT} {x1 : Int32} (h :
  (x1 = 0 → 
    let σ1 : jaT := jaU σ 20 (jaUI (σ 20) 70 0 0 (nI 0))
    (x1 = 0 ∨ x1 = 1) ∧ kk x1 σ1) ∧
  (¬ x1 = 0 → 
    let σ2 : jaT := jaU σ 20 (jaUI (σ 20) 70 0 0 (nI 1))
    (x1 = 0 ∨ x1 = 1) ∧ kk x1 σ2)) :
  jaDe (D + 1) jy_M_throwsIf [.inr (.inr (70, 20, 0)), .inl x1] σ (jaKi kk) :=
  jaCall_intro (mt := jaMt) (y := jy_M_throwsIf) (f := jf_M_throwsIf) (ps := jp_M_throwsIf) (nL := 2) rfl rfl (jaRun_go (jaCall_self jaAr jaMt D) [] 11 _ _ _ _ h)
abbrev jm_M_feed : jaM := (jf_M_feed, jp_M_feed, 6)
theorem js_M_feed {D : Nat} {kk : Int32 → jaT → Prop} {σ : jaT} {x1 : Int32} {x2 : Int32} {x3 : Int32} {x4 : Int32} {x5 : Int32} (h :
  let σ1 : jaT := jaU σ 20 (jaUI (σ 20) 70 0 0 (nI 0))
  ((((σ1 20).1 70 0 2) + (nI 20)) ≤ (nI 940) → 
    (jaDe D) jy_M_four [.inr (.inr (70, 20, 0)), .inl x1] σ1 (jaKv fun σ2 =>
      (jaDe D) jy_M_four [.inr (.inr (70, 20, 0)), .inl x2] σ2 (jaKv fun σ3 =>
        (jaDe D) jy_M_four [.inr (.inr (70, 20, 0)), .inl x3] σ3 (jaKv fun σ4 =>
          (jaDe D) jy_M_four [.inr (.inr (70, 20, 0)), .inl x4] σ4 (jaKv fun σ5 =>
            (jaDe D) jy_M_four [.inr (.inr (70, 20, 0)), .inl x5] σ5 (jaKv fun σ6 =>
              kk ((σ6 20).1 70 0 2) σ6)))))) ∧
  (¬ (((σ1 20).1 70 0 2) + (nI 20)) ≤ (nI 940) → kk (-1 : Int32) σ1)) :
  jaDe (D + 1) jy_M_feed [.inr (.inr (70, 20, 0)), .inl x1, .inl x2, .inl x3, .inl x4, .inl x5] σ (jaKi kk) :=
  jaCall_intro (mt := jaMt) (y := jy_M_feed) (f := jf_M_feed) (ps := jp_M_feed) (nL := 6) rfl rfl (jaRun_go (jaCall_self jaAr jaMt D) [] 30 _ _ _ _ h)
abbrev jm_M_four : jaM := (jf_M_four, jp_M_four, 3)
def jc_M_four_1 (D : Nat) (kk : jaT → Prop) (x1 : Int32) (x2 : Int32) (σ : jaT) : Prop := jaC (jaDe D) jm_M_four (jaKv kk) 1 [some (.inr (.inr (70, 20, 0))), some (.inl x1), some (.inl x2)] [] σ
theorem js_M_four {D : Nat} {kk : jaT → Prop} {σ : jaT} {x1 : Int32} (h :
  jc_M_four_1 D kk x1 (nI 24) σ) :
  jaDe (D + 1) jy_M_four [.inr (.inr (70, 20, 0)), .inl x1] σ (jaKv kk) :=
  jaCall_intro (mt := jaMt) (y := jy_M_four) (f := jf_M_four) (ps := jp_M_four) (nL := 3) rfl rfl (jaRun_go (jaCall_self jaAr jaMt D) [1] 6 _ _ _ _ h)
theorem jb_M_four_1 {D : Nat} {kk : jaT → Prop} {σ : jaT} {x1 : Int32} {x2 : Int32} (h :
  (x2 < 0 → kk σ) ∧
  (¬ x2 < 0 → 
    vp_in ((σ 20).1 70 0 2) 940 ∧ 
    (let σ1 : jaT := jaU σ 20 (jaUI (σ 20) 71 0 (jaIx ((σ 20).1 70 0 2)) ((Int32.toInt8 ((Int32.toInt8 (x1 >>> (x2 &&& 31))).toInt32)).toInt32))
    let σ2 : jaT := jaU σ1 20 (jaUI (σ1 20) 70 0 2 (((σ1 20).1 70 0 2) + (nI 1)))
    jc_M_four_1 D kk x1 (x2 + (-8 : Int32)) σ2))) :
  jc_M_four_1 D kk x1 x2 σ :=
  jaRun_go (jaCall_self jaAr jaMt D) [1] 22 _ _ _ _ h
abbrev jm_M_end : jaM := (jf_M_end, jp_M_end, 2)
theorem js_M_end {D : Nat} {kk : Int32 → jaT → Prop} {σ : jaT} {x1 : Int32} (h :
  let σ1 : jaT := jaU σ 20 (jaUI (σ 20) 70 0 0 (nI 0))
  (x1 < 0 → ((nI 0) = 0 ∨ (nI 0) = 1) ∧ kk (nI 0) σ1) ∧
  (¬ x1 < 0 → 
    (x1 ≤ ((σ1 20).1 70 0 2) → 
      let σ2 : jaT := jaU σ1 20 (jaUI (σ1 20) 70 0 2 x1)
      ((nI 1) = 0 ∨ (nI 1) = 1) ∧ kk (nI 1) σ2) ∧
    (¬ x1 ≤ ((σ1 20).1 70 0 2) → ((nI 0) = 0 ∨ (nI 0) = 1) ∧ kk (nI 0) σ1))) :
  jaDe (D + 1) jy_M_end [.inr (.inr (70, 20, 0)), .inl x1] σ (jaKi kk) :=
  jaCall_intro (mt := jaMt) (y := jy_M_end) (f := jf_M_end) (ps := jp_M_end) (nL := 2) rfl rfl (jaRun_go (jaCall_self jaAr jaMt D) [] 17 _ _ _ _ h)
abbrev jm_M_taken : jaM := (jf_M_taken, jp_M_taken, 2)
theorem js_M_taken {D : Nat} {kk : jaT → Prop} {σ : jaT} {x1 : Int32} (h :
  let σ1 : jaT := jaU σ 20 (jaUI (σ 20) 70 0 3 ((σ 20).1 70 0 2))
  let σ2 : jaT := jaU σ1 20 (jaUI (σ1 20) 70 0 2 (nI 0))
  let σ3 : jaT := jaU σ2 20 (jaUI (σ2 20) 70 0 4 (nI 0))
  let σ4 : jaT := jaU σ3 20 (jaUI (σ3 20) 70 0 5 x1)
  kk σ4) :
  jaDe (D + 1) jy_M_taken [.inr (.inr (70, 20, 0)), .inl x1] σ (jaKv kk) :=
  jaCall_intro (mt := jaMt) (y := jy_M_taken) (f := jf_M_taken) (ps := jp_M_taken) (nL := 2) rfl rfl (jaRun_go (jaCall_self jaAr jaMt D) [] 17 _ _ _ _ h)
abbrev jm_M_isIn : jaM := (jf_M_isIn, jp_M_isIn, 3)
theorem js_M_isIn {D : Nat} {kk : Int32 → jaT → Prop} {σ : jaT} {x0 : Int32} {x1 : Int32} {x2 : Int32} (h :
  (x0 < x1 → ((nI 0) = 0 ∨ (nI 0) = 1) ∧ kk (nI 0) σ) ∧
  (¬ x0 < x1 → 
    (x2 < x0 → ((nI 0) = 0 ∨ (nI 0) = 1) ∧ kk (nI 0) σ) ∧
    (¬ x2 < x0 → ((nI 1) = 0 ∨ (nI 1) = 1) ∧ kk (nI 1) σ))) :
  jaDe (D + 1) jy_M_isIn [.inl x0, .inl x1, .inl x2] σ (jaKi kk) :=
  jaCall_intro (mt := jaMt) (y := jy_M_isIn) (f := jf_M_isIn) (ps := jp_M_isIn) (nL := 3) rfl rfl (jaRun_go (jaCall_self jaAr jaMt D) [] 12 _ _ _ _ h)
abbrev jm_M_bitOf : jaM := (jf_M_bitOf, jp_M_bitOf, 2)
theorem js_M_bitOf {D : Nat} {kk : Int32 → jaT → Prop} {σ : jaT} {x0 : Int32} {x1 : Int32} (h :
  (¬ ((x0 >>> (x1 &&& 31)) &&& (nI 1)) = (nI 1) → ((nI 0) = 0 ∨ (nI 0) = 1) ∧ kk (nI 0) σ) ∧
  (((x0 >>> (x1 &&& 31)) &&& (nI 1)) = (nI 1) → ((nI 1) = 0 ∨ (nI 1) = 1) ∧ kk (nI 1) σ)) :
  jaDe (D + 1) jy_M_bitOf [.inl x0, .inl x1] σ (jaKi kk) :=
  jaCall_intro (mt := jaMt) (y := jy_M_bitOf) (f := jf_M_bitOf) (ps := jp_M_bitOf) (nL := 2) rfl rfl (jaRun_go (jaCall_self jaAr jaMt D) [] 13 _ _ _ _ h)
abbrev jm_M_greater : jaM := (jf_M_greater, jp_M_greater, 2)
theorem js_M_greater {D : Nat} {kk : Int32 → jaT → Prop} {σ : jaT} {x0 : Int32} {x1 : Int32} (h :
  (x0 ≤ x1 → kk x1 σ) ∧
  (¬ x0 ≤ x1 → kk x0 σ)) :
  jaDe (D + 1) jy_M_greater [.inl x0, .inl x1] σ (jaKi kk) :=
  jaCall_intro (mt := jaMt) (y := jy_M_greater) (f := jf_M_greater) (ps := jp_M_greater) (nL := 2) rfl rfl (jaRun_go (jaCall_self jaAr jaMt D) [] 9 _ _ _ _ h)
abbrev jm_M_bits : jaM := (jf_M_bits, jp_M_bits, 3)
def jc_M_bits_1 (D : Nat) (kk : Int32 → jaT → Prop) (x0 : Int32) (x1 : Int32) (x2 : Int32) (σ : jaT) : Prop := jaC (jaDe D) jm_M_bits (jaKi kk) 1 [some (.inl x0), some (.inl x1), some (.inl x2)] [] σ
theorem js_M_bits {D : Nat} {kk : Int32 → jaT → Prop} {σ : jaT} {x0 : Int32} (h :
  jc_M_bits_1 D kk x0 (nI 0) x0 σ) :
  jaDe (D + 1) jy_M_bits [.inl x0] σ (jaKi kk) :=
  jaCall_intro (mt := jaMt) (y := jy_M_bits) (f := jf_M_bits) (ps := jp_M_bits) (nL := 3) rfl rfl (jaRun_go (jaCall_self jaAr jaMt D) [1] 8 _ _ _ _ h)
theorem jb_M_bits_1 {D : Nat} {kk : Int32 → jaT → Prop} {σ : jaT} {x0 : Int32} {x1 : Int32} {x2 : Int32} (h :
  (x2 = 0 → kk x1 σ) ∧
  (¬ x2 = 0 → jc_M_bits_1 D kk x0 (x1 + (nI 1)) (x2 &&& (x2 - (nI 1))) σ)) :
  jc_M_bits_1 D kk x0 x1 x2 σ :=
  jaRun_go (jaCall_self jaAr jaMt D) [1] 13 _ _ _ _ h
abbrev jm_M_octet : jaM := (jf_M_octet, jp_M_octet, 2)
theorem js_M_octet {D : Nat} {kk : Int32 → jaT → Prop} {σ : jaT} {x1 : Int32} (h :
  vp_in x1 940 ∧ kk (((σ 20).1 71 0 (jaIx x1)) &&& (nI 255)) σ) :
  jaDe (D + 1) jy_M_octet [.inr (.inr (70, 20, 0)), .inl x1] σ (jaKi kk) :=
  jaCall_intro (mt := jaMt) (y := jy_M_octet) (f := jf_M_octet) (ps := jp_M_octet) (nL := 2) rfl rfl (jaRun_go (jaCall_self jaAr jaMt D) [] 10 _ _ _ _ h)
abbrev jm_M_clears : jaM := (jf_M_clears, jp_M_clears, 2)
def jc_M_clears_1 (D : Nat) (kk : jaT → Prop) (x1 : Int32) (σ : jaT) : Prop := jaC (jaDe D) jm_M_clears (jaKv kk) 1 [some (.inr (.inr (70, 20, 0))), some (.inl x1)] [] σ
theorem js_M_clears {D : Nat} {kk : jaT → Prop} {σ : jaT}  (h :
  jc_M_clears_1 D kk (nI 0) σ) :
  jaDe (D + 1) jy_M_clears [.inr (.inr (70, 20, 0))] σ (jaKv kk) :=
  jaCall_intro (mt := jaMt) (y := jy_M_clears) (f := jf_M_clears) (ps := jp_M_clears) (nL := 2) rfl rfl (jaRun_go (jaCall_self jaAr jaMt D) [1] 6 _ _ _ _ h)
theorem jb_M_clears_1 {D : Nat} {kk : jaT → Prop} {σ : jaT} {x1 : Int32} (h :
  ((nI 31) ≤ x1 → 
    vp_in (nI 3) 31 ∧ 
    (let σ1 : jaT := jaU σ 20 (jaUI (σ 20) 73 0 (jaIx (nI 3)) (nI 5))
    vp_in (nI 4) 31 ∧ 
    (let σ2 : jaT := jaU σ1 20 (jaUI (σ1 20) 73 0 (jaIx (nI 4)) (nI 2))
    kk σ2))) ∧
  (¬ (nI 31) ≤ x1 → 
    vp_in x1 31 ∧ 
    (let σ3 : jaT := jaU σ 20 (jaUI (σ 20) 73 0 (jaIx x1) (nI 0))
    jc_M_clears_1 D kk (x1 + (nI 1)) σ3))) :
  jc_M_clears_1 D kk x1 σ :=
  jaRun_go (jaCall_self jaAr jaMt D) [1] 17 _ _ _ _ h
abbrev jm_M_peek : jaM := (jf_M_peek, jp_M_peek, 1)
theorem js_M_peek {D : Nat} {kk : Int32 → jaT → Prop} {σ : jaT}  (h :
  (((σ 20).1 70 0 3) ≤ ((σ 20).1 70 0 4) → kk (-1 : Int32) σ) ∧
  (¬ ((σ 20).1 70 0 3) ≤ ((σ 20).1 70 0 4) → 
    vp_in ((σ 20).1 70 0 4) 940 ∧ kk (((σ 20).1 71 0 (jaIx ((σ 20).1 70 0 4))) &&& (nI 255)) σ)) :
  jaDe (D + 1) jy_M_peek [.inr (.inr (70, 20, 0))] σ (jaKi kk) :=
  jaCall_intro (mt := jaMt) (y := jy_M_peek) (f := jf_M_peek) (ps := jp_M_peek) (nL := 1) rfl rfl (jaRun_go (jaCall_self jaAr jaMt D) [] 17 _ _ _ _ h)
abbrev jm_M_isSmall : jaM := (jf_M_isSmall, jp_M_isSmall, 1)
theorem js_M_isSmall {D : Nat} {kk : Int32 → jaT → Prop} {σ : jaT} {x0 : Int32} (h :
  (x0 < (nI 97) → ((nI 0) = 0 ∨ (nI 0) = 1) ∧ kk (nI 0) σ) ∧
  (¬ x0 < (nI 97) → 
    ((nI 122) < x0 → ((nI 0) = 0 ∨ (nI 0) = 1) ∧ kk (nI 0) σ) ∧
    (¬ (nI 122) < x0 → ((nI 1) = 0 ∨ (nI 1) = 1) ∧ kk (nI 1) σ))) :
  jaDe (D + 1) jy_M_isSmall [.inl x0] σ (jaKi kk) :=
  jaCall_intro (mt := jaMt) (y := jy_M_isSmall) (f := jf_M_isSmall) (ps := jp_M_isSmall) (nL := 1) rfl rfl (jaRun_go (jaCall_self jaAr jaMt D) [] 12 _ _ _ _ h)
abbrev jm_M_isDigit : jaM := (jf_M_isDigit, jp_M_isDigit, 1)
theorem js_M_isDigit {D : Nat} {kk : Int32 → jaT → Prop} {σ : jaT} {x0 : Int32} (h :
  (x0 < (nI 48) → ((nI 0) = 0 ∨ (nI 0) = 1) ∧ kk (nI 0) σ) ∧
  (¬ x0 < (nI 48) → 
    ((nI 57) < x0 → ((nI 0) = 0 ∨ (nI 0) = 1) ∧ kk (nI 0) σ) ∧
    (¬ (nI 57) < x0 → ((nI 1) = 0 ∨ (nI 1) = 1) ∧ kk (nI 1) σ))) :
  jaDe (D + 1) jy_M_isDigit [.inl x0] σ (jaKi kk) :=
  jaCall_intro (mt := jaMt) (y := jy_M_isDigit) (f := jf_M_isDigit) (ps := jp_M_isDigit) (nL := 1) rfl rfl (jaRun_go (jaCall_self jaAr jaMt D) [] 12 _ _ _ _ h)
abbrev jm_M_next : jaM := (jf_M_next, jp_M_next, 4)
def jc_M_next_1 (D : Nat) (kk : jaT → Prop)  (σ : jaT) : Prop := jaC (jaDe D) jm_M_next (jaKv kk) 1 [some (.inr (.inr (70, 20, 0))), none, none, none] [] σ
def jc_M_next_2 (D : Nat) (kk : jaT → Prop)  (σ : jaT) : Prop := jaC (jaDe D) jm_M_next (jaKv kk) 2 [some (.inr (.inr (70, 20, 0))), none, none, none] [] σ
def jc_M_next_4 (D : Nat) (kk : jaT → Prop)  (σ : jaT) : Prop := jaC (jaDe D) jm_M_next (jaKv kk) 4 [some (.inr (.inr (70, 20, 0))), none, none, none] [] σ
def jc_M_next_6 (D : Nat) (kk : jaT → Prop) (x1 : Int32) (σ : jaT) : Prop := jaC (jaDe D) jm_M_next (jaKv kk) 6 [some (.inr (.inr (70, 20, 0))), some (.inl x1), none, none] [.inr (.inr (70, 20, 0))] σ
def jc_M_next_7 (D : Nat) (kk : jaT → Prop) (x1 : Int32) (σ : jaT) : Prop := jaC (jaDe D) jm_M_next (jaKv kk) 7 [some (.inr (.inr (70, 20, 0))), some (.inl x1), none, none] [.inr (.inr (70, 20, 0))] σ
def jc_M_next_8 (D : Nat) (kk : jaT → Prop) (x1 : Int32) (xs1 : Int32) (σ : jaT) : Prop := jaC (jaDe D) jm_M_next (jaKv kk) 8 [some (.inr (.inr (70, 20, 0))), some (.inl x1), none, none] [.inl xs1, .inr (.inr (70, 20, 0))] σ
def jc_M_next_9 (D : Nat) (kk : jaT → Prop) (x1 : Int32) (σ : jaT) : Prop := jaC (jaDe D) jm_M_next (jaKv kk) 9 [some (.inr (.inr (70, 20, 0))), some (.inl x1), none, none] [] σ
def jc_M_next_10 (D : Nat) (kk : jaT → Prop) (x1 : Int32) (x2 : Int32) (x3 : Int32) (σ : jaT) : Prop := jaC (jaDe D) jm_M_next (jaKv kk) 10 [some (.inr (.inr (70, 20, 0))), some (.inl x1), some (.inl x2), some (.inl x3)] [] σ
def jc_M_next_11 (D : Nat) (kk : jaT → Prop) (x1 : Int32) (x2 : Int32) (x3 : Int32) (σ : jaT) : Prop := jaC (jaDe D) jm_M_next (jaKv kk) 11 [some (.inr (.inr (70, 20, 0))), some (.inl x1), some (.inl x2), some (.inl x3)] [] σ
def jc_M_next_12 (D : Nat) (kk : jaT → Prop) (x1 : Int32) (x2 : Int32) (x3 : Int32) (σ : jaT) : Prop := jaC (jaDe D) jm_M_next (jaKv kk) 12 [some (.inr (.inr (70, 20, 0))), some (.inl x1), some (.inl x2), some (.inl x3)] [] σ
def jc_M_next_13 (D : Nat) (kk : jaT → Prop) (x1 : Int32) (x2 : Int32) (x3 : Int32) (xs0 : Int32) (σ : jaT) : Prop := jaC (jaDe D) jm_M_next (jaKv kk) 13 [some (.inr (.inr (70, 20, 0))), some (.inl x1), some (.inl x2), some (.inl x3)] [.inl xs0] σ
def jc_M_next_14 (D : Nat) (kk : jaT → Prop) (x1 : Int32) (x2 : Int32) (x3 : Int32) (σ : jaT) : Prop := jaC (jaDe D) jm_M_next (jaKv kk) 14 [some (.inr (.inr (70, 20, 0))), some (.inl x1), some (.inl x2), some (.inl x3)] [] σ
def jc_M_next_15 (D : Nat) (kk : jaT → Prop) (x1 : Int32) (x2 : Int32) (x3 : Int32) (σ : jaT) : Prop := jaC (jaDe D) jm_M_next (jaKv kk) 15 [some (.inr (.inr (70, 20, 0))), some (.inl x1), some (.inl x2), some (.inl x3)] [] σ
def jc_M_next_18 (D : Nat) (kk : jaT → Prop) (x1 : Int32) (x2 : Int32) (x3 : Int32) (xs1 : Int32) (xs2 : Int32) (σ : jaT) : Prop := jaC (jaDe D) jm_M_next (jaKv kk) 18 [some (.inr (.inr (70, 20, 0))), some (.inl x1), some (.inl x2), some (.inl x3)] [.inl xs2, .inl xs1, .inr (.inr (70, 20, 0))] σ
def jc_M_next_19 (D : Nat) (kk : jaT → Prop) (x1 : Int32) (x2 : Int32) (x3 : Int32) (σ : jaT) : Prop := jaC (jaDe D) jm_M_next (jaKv kk) 19 [some (.inr (.inr (70, 20, 0))), some (.inl x1), some (.inl x2), some (.inl x3)] [.inr (.inr (70, 20, 0))] σ
def jc_M_next_22 (D : Nat) (kk : jaT → Prop) (x1 : Int32) (x2 : Int32) (x3 : Int32) (xs1 : Int32) (σ : jaT) : Prop := jaC (jaDe D) jm_M_next (jaKv kk) 22 [some (.inr (.inr (70, 20, 0))), some (.inl x1), some (.inl x2), some (.inl x3)] [.inl xs1, .inr (.inr (70, 20, 0))] σ
theorem js_M_next {D : Nat} {kk : jaT → Prop} {σ : jaT}  (h :
  jc_M_next_1 D kk σ) :
  jaDe (D + 1) jy_M_next [.inr (.inr (70, 20, 0))] σ (jaKv kk) :=
  jaCall_intro (mt := jaMt) (y := jy_M_next) (f := jf_M_next) (ps := jp_M_next) (nL := 4) rfl rfl (jaRun_go (jaCall_self jaAr jaMt D) [1, 2, 4, 6, 7, 8, 9, 10, 11, 12, 13, 14, 15, 18, 19, 22] 4 _ _ _ _ h)
theorem jb_M_next_1 {D : Nat} {kk : jaT → Prop} {σ : jaT}  (h :
  (jaDe D) jy_M_peek [.inr (.inr (70, 20, 0))] σ (jaKi fun r2 σ1 =>
    (r2 = (nI 32) → jc_M_next_2 D kk σ1) ∧
    (¬ r2 = (nI 32) → 
      (jaDe D) jy_M_peek [.inr (.inr (70, 20, 0))] σ1 (jaKi fun r4 σ3 =>
        (¬ r4 = (nI 10) → 
          let σ5 : jaT := jaU σ3 20 (jaUI (σ3 20) 70 0 15 ((σ3 20).1 70 0 4))
          let σ6 : jaT := jaU σ5 20 (jaUI (σ5 20) 70 0 16 (nI 0))
          (((σ6 20).1 70 0 3) ≤ ((σ6 20).1 70 0 5) → jc_M_next_4 D kk σ6) ∧
          (¬ ((σ6 20).1 70 0 3) ≤ ((σ6 20).1 70 0 5) → 
            (((σ6 20).1 70 0 4) < ((σ6 20).1 70 0 5) → jc_M_next_4 D kk σ6) ∧
            (¬ ((σ6 20).1 70 0 4) < ((σ6 20).1 70 0 5) → 
              let σ7 : jaT := jaU σ6 20 (jaUI (σ6 20) 70 0 15 ((σ6 20).1 70 0 5))
              let σ8 : jaT := jaU σ7 20 (jaUI (σ7 20) 70 0 14 (nI 4))
              kk σ8))) ∧
        (r4 = (nI 10) → jc_M_next_2 D kk σ3))))) :
  jc_M_next_1 D kk σ :=
  jaRun_go (jaCall_self jaAr jaMt D) [1, 2, 4, 6, 7, 8, 9, 10, 11, 12, 13, 14, 15, 18, 19, 22] 36 _ _ _ _ h
theorem jb_M_next_2 {D : Nat} {kk : jaT → Prop} {σ : jaT}  (h :
  let σ1 : jaT := jaU σ 20 (jaUI (σ 20) 70 0 4 (((σ 20).1 70 0 4) + (nI 1)))
  jc_M_next_1 D kk σ1) :
  jc_M_next_2 D kk σ :=
  jaRun_go (jaCall_self jaAr jaMt D) [1, 2, 4, 6, 7, 8, 9, 10, 11, 12, 13, 14, 15, 18, 19, 22] 10 _ _ _ _ h
theorem jb_M_next_4 {D : Nat} {kk : jaT → Prop} {σ : jaT}  (h :
  (jaDe D) jy_M_peek [.inr (.inr (70, 20, 0))] σ (jaKi fun r2 σ1 =>
    (0 ≤ r2 → 
      (jaDe D) jy_M_isSmall [.inl r2] σ1 (jaKi fun r4 σ3 =>
        (¬ r4 = 0 → jc_M_next_9 D kk r2 σ3) ∧
        (r4 = 0 → 
          (jaDe D) jy_M_isDigit [.inl r2] σ3 (jaKi fun r6 σ5 =>
            (¬ r6 = 0 → jc_M_next_9 D kk r2 σ5) ∧
            (r6 = 0 → 
              (r2 = (nI 59) → jc_M_next_6 D kk r2 σ5) ∧
              (¬ r2 = (nI 59) → 
                (r2 = (nI 40) → jc_M_next_6 D kk r2 σ5) ∧
                (¬ r2 = (nI 40) → 
                  (r2 = (nI 41) → jc_M_next_6 D kk r2 σ5) ∧
                  (¬ r2 = (nI 41) → 
                    (r2 = (nI 43) → jc_M_next_6 D kk r2 σ5) ∧
                    (¬ r2 = (nI 43) → 
                      (r2 = (nI 45) → jc_M_next_6 D kk r2 σ5) ∧
                      (¬ r2 = (nI 45) → 
                        (r2 < (nI 60) → jc_M_next_7 D kk r2 σ5) ∧
                        (¬ r2 < (nI 60) → 
                          ((nI 62) < r2 → jc_M_next_7 D kk r2 σ5) ∧
                          (¬ (nI 62) < r2 → jc_M_next_6 D kk r2 σ5)))))))))))) ∧
    (¬ 0 ≤ r2 → 
      let σ7 : jaT := jaU σ1 20 (jaUI (σ1 20) 70 0 14 (nI 0))
      kk σ7))) :
  jc_M_next_4 D kk σ :=
  jaRun_go (jaCall_self jaAr jaMt D) [1, 2, 4, 6, 7, 8, 9, 10, 11, 12, 13, 14, 15, 18, 19, 22] 37 _ _ _ _ h
theorem jb_M_next_6 {D : Nat} {kk : jaT → Prop} {σ : jaT} {x1 : Int32} (h :
  jc_M_next_8 D kk x1 (nI 3) σ) :
  jc_M_next_6 D kk x1 σ :=
  jaRun_go (jaCall_self jaAr jaMt D) [1, 2, 4, 6, 7, 8, 9, 10, 11, 12, 13, 14, 15, 18, 19, 22] 5 _ _ _ _ h
theorem jb_M_next_7 {D : Nat} {kk : jaT → Prop} {σ : jaT} {x1 : Int32} (h :
  jc_M_next_8 D kk x1 (nI 4) σ) :
  jc_M_next_7 D kk x1 σ :=
  jaRun_go (jaCall_self jaAr jaMt D) [1, 2, 4, 6, 7, 8, 9, 10, 11, 12, 13, 14, 15, 18, 19, 22] 5 _ _ _ _ h
theorem jb_M_next_8 {D : Nat} {kk : jaT → Prop} {σ : jaT} {x1 : Int32} {xs1 : Int32} (h :
  let σ1 : jaT := jaU σ 20 (jaUI (σ 20) 70 0 14 xs1)
  let σ2 : jaT := jaU σ1 20 (jaUI (σ1 20) 70 0 17 x1)
  let σ3 : jaT := jaU σ2 20 (jaUI (σ2 20) 70 0 4 (((σ2 20).1 70 0 4) + (nI 1)))
  kk σ3) :
  jc_M_next_8 D kk x1 xs1 σ :=
  jaRun_go (jaCall_self jaAr jaMt D) [1, 2, 4, 6, 7, 8, 9, 10, 11, 12, 13, 14, 15, 18, 19, 22] 14 _ _ _ _ h
theorem jb_M_next_9 {D : Nat} {kk : jaT → Prop} {σ : jaT} {x1 : Int32} (h :
  (jaDe D) jy_M_isSmall [.inl x1] σ (jaKi fun r2 σ1 =>
    let σ3 : jaT := jaU σ1 20 (jaUL (σ1 20) 70 0 20 (Int64.ofNat 0))
    let σ4 : jaT := jaU σ3 20 (jaUI (σ3 20) 70 0 17 (nI 0))
    jc_M_next_10 D kk x1 r2 (nI 1) σ4)) :
  jc_M_next_9 D kk x1 σ :=
  jaRun_go (jaCall_self jaAr jaMt D) [1, 2, 4, 6, 7, 8, 9, 10, 11, 12, 13, 14, 15, 18, 19, 22] 15 _ _ _ _ h
theorem jb_M_next_10 {D : Nat} {kk : jaT → Prop} {σ : jaT} {x1 : Int32} {x2 : Int32} {x3 : Int32} (h :
  (jaDe D) jy_M_peek [.inr (.inr (70, 20, 0))] σ (jaKi fun r2 σ1 =>
    (jaDe D) jy_M_isSmall [.inl r2] σ1 (jaKi fun r4 σ3 =>
      (¬ r4 = 0 → jc_M_next_11 D kk x1 x2 x3 σ3) ∧
      (r4 = 0 → 
        (jaDe D) jy_M_peek [.inr (.inr (70, 20, 0))] σ3 (jaKi fun r6 σ5 =>
          (jaDe D) jy_M_isDigit [.inl r6] σ5 (jaKi fun r8 σ7 =>
            (r8 = 0 → 
              (x3 = 0 → jc_M_next_19 D kk x1 x2 x3 σ7) ∧
              (¬ x3 = 0 → 
                (x2 = 0 → jc_M_next_18 D kk x1 x2 x3 ((σ7 20).1 70 0 16) (nI 3) σ7) ∧
                (¬ x2 = 0 → jc_M_next_18 D kk x1 x2 x3 ((σ7 20).1 70 0 16) (nI 7) σ7))) ∧
            (¬ r8 = 0 → jc_M_next_11 D kk x1 x2 x3 σ7))))))) :
  jc_M_next_10 D kk x1 x2 x3 σ :=
  jaRun_go (jaCall_self jaAr jaMt D) [1, 2, 4, 6, 7, 8, 9, 10, 11, 12, 13, 14, 15, 18, 19, 22] 20 _ _ _ _ h
theorem jb_M_next_11 {D : Nat} {kk : jaT → Prop} {σ : jaT} {x1 : Int32} {x2 : Int32} {x3 : Int32} (h :
  (x3 = 0 → jc_M_next_12 D kk x1 x2 x3 σ) ∧
  (¬ x3 = 0 → 
    (jaDe D) jy_M_peek [.inr (.inr (70, 20, 0))] σ (jaKi fun r2 σ1 =>
      (jaDe D) jy_M_isSmall [.inl r2] σ1 (jaKi fun r4 σ3 =>
        (¬ r4 = x2 → jc_M_next_12 D kk x1 x2 x3 σ3) ∧
        (r4 = x2 → jc_M_next_13 D kk x1 x2 x3 (nI 1) σ3))))) :
  jc_M_next_11 D kk x1 x2 x3 σ :=
  jaRun_go (jaCall_self jaAr jaMt D) [1, 2, 4, 6, 7, 8, 9, 10, 11, 12, 13, 14, 15, 18, 19, 22] 12 _ _ _ _ h
theorem jb_M_next_12 {D : Nat} {kk : jaT → Prop} {σ : jaT} {x1 : Int32} {x2 : Int32} {x3 : Int32} (h :
  jc_M_next_13 D kk x1 x2 x3 (nI 0) σ) :
  jc_M_next_12 D kk x1 x2 x3 σ :=
  jaRun_go (jaCall_self jaAr jaMt D) [1, 2, 4, 6, 7, 8, 9, 10, 11, 12, 13, 14, 15, 18, 19, 22] 5 _ _ _ _ h
theorem jb_M_next_13 {D : Nat} {kk : jaT → Prop} {σ : jaT} {x1 : Int32} {x2 : Int32} {x3 : Int32} {xs0 : Int32} (h :
  ((nI 7) ≤ ((σ 20).1 70 0 16) → jc_M_next_14 D kk x1 x2 xs0 σ) ∧
  (¬ (nI 7) ≤ ((σ 20).1 70 0 16) → 
    (jaDe D) jy_M_peek [.inr (.inr (70, 20, 0))] σ (jaKi fun r2 σ1 =>
      let σ3 : jaT := jaU σ1 20 (jaUL (σ1 20) 70 0 20 ((((σ 20).2 70 0 20) <<< (Int32.toInt64 (nI 8) &&& 63)) ||| (Int32.toInt64 r2)))
      jc_M_next_14 D kk x1 x2 xs0 σ3))) :
  jc_M_next_13 D kk x1 x2 x3 xs0 σ :=
  jaRun_go (jaCall_self jaAr jaMt D) [1, 2, 4, 6, 7, 8, 9, 10, 11, 12, 13, 14, 15, 18, 19, 22] 19 _ _ _ _ h
theorem jb_M_next_14 {D : Nat} {kk : jaT → Prop} {σ : jaT} {x1 : Int32} {x2 : Int32} {x3 : Int32} (h :
  ((nI 3) ≤ ((σ 20).1 70 0 16) → jc_M_next_15 D kk x1 x2 x3 σ) ∧
  (¬ (nI 3) ≤ ((σ 20).1 70 0 16) → 
    (jaDe D) jy_M_peek [.inr (.inr (70, 20, 0))] σ (jaKi fun r2 σ1 =>
      let σ3 : jaT := jaU σ1 20 (jaUI (σ1 20) 70 0 17 ((((nI 10) * ((σ 20).1 70 0 17)) + r2) - (nI 48)))
      jc_M_next_15 D kk x1 x2 x3 σ3))) :
  jc_M_next_14 D kk x1 x2 x3 σ :=
  jaRun_go (jaCall_self jaAr jaMt D) [1, 2, 4, 6, 7, 8, 9, 10, 11, 12, 13, 14, 15, 18, 19, 22] 19 _ _ _ _ h
theorem jb_M_next_15 {D : Nat} {kk : jaT → Prop} {σ : jaT} {x1 : Int32} {x2 : Int32} {x3 : Int32} (h :
  let σ1 : jaT := jaU σ 20 (jaUI (σ 20) 70 0 16 (((σ 20).1 70 0 16) + (nI 1)))
  let σ2 : jaT := jaU σ1 20 (jaUI (σ1 20) 70 0 4 (((σ1 20).1 70 0 4) + (nI 1)))
  jc_M_next_10 D kk x1 x2 x3 σ2) :
  jc_M_next_15 D kk x1 x2 x3 σ :=
  jaRun_go (jaCall_self jaAr jaMt D) [1, 2, 4, 6, 7, 8, 9, 10, 11, 12, 13, 14, 15, 18, 19, 22] 16 _ _ _ _ h
theorem jb_M_next_18 {D : Nat} {kk : jaT → Prop} {σ : jaT} {x1 : Int32} {x2 : Int32} {x3 : Int32} {xs1 : Int32} {xs2 : Int32} (h :
  (xs1 ≤ xs2 → 
    (x2 = 0 → jc_M_next_22 D kk x1 x2 x3 (nI 2) σ) ∧
    (¬ x2 = 0 → jc_M_next_22 D kk x1 x2 x3 (nI 1) σ)) ∧
  (¬ xs1 ≤ xs2 → jc_M_next_19 D kk x1 x2 x3 σ)) :
  jc_M_next_18 D kk x1 x2 x3 xs1 xs2 σ :=
  jaRun_go (jaCall_self jaAr jaMt D) [1, 2, 4, 6, 7, 8, 9, 10, 11, 12, 13, 14, 15, 18, 19, 22] 8 _ _ _ _ h
theorem jb_M_next_19 {D : Nat} {kk : jaT → Prop} {σ : jaT} {x1 : Int32} {x2 : Int32} {x3 : Int32} (h :
  jc_M_next_22 D kk x1 x2 x3 (nI 4) σ) :
  jc_M_next_19 D kk x1 x2 x3 σ :=
  jaRun_go (jaCall_self jaAr jaMt D) [1, 2, 4, 6, 7, 8, 9, 10, 11, 12, 13, 14, 15, 18, 19, 22] 5 _ _ _ _ h
theorem jb_M_next_22 {D : Nat} {kk : jaT → Prop} {σ : jaT} {x1 : Int32} {x2 : Int32} {x3 : Int32} {xs1 : Int32} (h :
  let σ1 : jaT := jaU σ 20 (jaUI (σ 20) 70 0 14 xs1)
  kk σ1) :
  jc_M_next_22 D kk x1 x2 x3 xs1 σ :=
  jaRun_go (jaCall_self jaAr jaMt D) [1, 2, 4, 6, 7, 8, 9, 10, 11, 12, 13, 14, 15, 18, 19, 22] 5 _ _ _ _ h
abbrev jm_M_bad : jaM := (jf_M_bad, jp_M_bad, 2)
theorem js_M_bad {D : Nat} {kk : Int32 → jaT → Prop} {σ : jaT} {x1 : Int32} (h :
  let σ1 : jaT := jaU σ 20 (jaUI (σ 20) 70 0 18 x1)
  let σ2 : jaT := jaU σ1 20 (jaUI (σ1 20) 70 0 19 ((σ1 20).1 70 0 15))
  ((nI 0) = 0 ∨ (nI 0) = 1) ∧ kk (nI 0) σ2) :
  jaDe (D + 1) jy_M_bad [.inr (.inr (70, 20, 0)), .inl x1] σ (jaKi kk) :=
  jaCall_intro (mt := jaMt) (y := jy_M_bad) (f := jf_M_bad) (ps := jp_M_bad) (nL := 2) rfl rfl (jaRun_go (jaCall_self jaAr jaMt D) [] 12 _ _ _ _ h)
abbrev jm_M_isWord : jaM := (jf_M_isWord, jp_M_isWord, 3)
theorem js_M_isWord {D : Nat} {kk : Int32 → jaT → Prop} {σ : jaT} {x1 : Int64} (h :
  (¬ ((σ 20).1 70 0 14) = (nI 1) → ((nI 0) = 0 ∨ (nI 0) = 1) ∧ kk (nI 0) σ) ∧
  (((σ 20).1 70 0 14) = (nI 1) → 
    (¬ (lg_cmp ((σ 20).2 70 0 20) x1) = 0 → ((nI 0) = 0 ∨ (nI 0) = 1) ∧ kk (nI 0) σ) ∧
    ((lg_cmp ((σ 20).2 70 0 20) x1) = 0 → ((nI 1) = 0 ∨ (nI 1) = 1) ∧ kk (nI 1) σ))) :
  jaDe (D + 1) jy_M_isWord [.inr (.inr (70, 20, 0)), .inr (.inl x1)] σ (jaKi kk) :=
  jaCall_intro (mt := jaMt) (y := jy_M_isWord) (f := jf_M_isWord) (ps := jp_M_isWord) (nL := 3) rfl rfl (jaRun_go (jaCall_self jaAr jaMt D) [] 15 _ _ _ _ h)
abbrev jm_M_isSign : jaM := (jf_M_isSign, jp_M_isSign, 2)
theorem js_M_isSign {D : Nat} {kk : Int32 → jaT → Prop} {σ : jaT} {x1 : Int32} (h :
  (¬ ((σ 20).1 70 0 14) = (nI 3) → ((nI 0) = 0 ∨ (nI 0) = 1) ∧ kk (nI 0) σ) ∧
  (((σ 20).1 70 0 14) = (nI 3) → 
    (¬ ((σ 20).1 70 0 17) = x1 → ((nI 0) = 0 ∨ (nI 0) = 1) ∧ kk (nI 0) σ) ∧
    (((σ 20).1 70 0 17) = x1 → ((nI 1) = 0 ∨ (nI 1) = 1) ∧ kk (nI 1) σ))) :
  jaDe (D + 1) jy_M_isSign [.inr (.inr (70, 20, 0)), .inl x1] σ (jaKi kk) :=
  jaCall_intro (mt := jaMt) (y := jy_M_isSign) (f := jf_M_isSign) (ps := jp_M_isSign) (nL := 2) rfl rfl (jaRun_go (jaCall_self jaAr jaMt D) [] 14 _ _ _ _ h)
abbrev jm_M_sign : jaM := (jf_M_sign, jp_M_sign, 2)
theorem js_M_sign {D : Nat} {kk : Int32 → jaT → Prop} {σ : jaT} {x1 : Int32} (h :
  (jaDe D) jy_M_isSign [.inr (.inr (70, 20, 0)), .inl x1] σ (jaKi fun r2 σ1 =>
    (¬ r2 = 0 → 
      (jaDe D) jy_M_next [.inr (.inr (70, 20, 0))] σ1 (jaKv fun σ3 =>
        ((nI 1) = 0 ∨ (nI 1) = 1) ∧ kk (nI 1) σ3)) ∧
    (r2 = 0 → 
      (jaDe D) jy_M_bad [.inr (.inr (70, 20, 0)), .inl (nI 1)] σ1 (jaKi fun r5 σ4 =>
        (r5 = 0 ∨ r5 = 1) ∧ kk r5 σ4)))) :
  jaDe (D + 1) jy_M_sign [.inr (.inr (70, 20, 0)), .inl x1] σ (jaKi kk) :=
  jaCall_intro (mt := jaMt) (y := jy_M_sign) (f := jf_M_sign) (ps := jp_M_sign) (nL := 2) rfl rfl (jaRun_go (jaCall_self jaAr jaMt D) [] 11 _ _ _ _ h)
abbrev jm_M_isName : jaM := (jf_M_isName, jp_M_isName, 3)
def jc_M_isName_3 (D : Nat) (kk : Int32 → jaT → Prop) (x1 : Int32) (x2 : Int32) (σ : jaT) : Prop := jaC (jaDe D) jm_M_isName (jaKi kk) 3 [some (.inr (.inr (70, 20, 0))), some (.inl x1), some (.inl x2)] [] σ
theorem js_M_isName {D : Nat} {kk : Int32 → jaT → Prop} {σ : jaT}  (h :
  (¬ ((σ 20).1 70 0 14) = (nI 1) → jc_M_isName_3 D kk (nI 0) (nI 0) σ) ∧
  (((σ 20).1 70 0 14) = (nI 1) → jc_M_isName_3 D kk (nI 1) (nI 0) σ)) :
  jaDe (D + 1) jy_M_isName [.inr (.inr (70, 20, 0))] σ (jaKi kk) :=
  jaCall_intro (mt := jaMt) (y := jy_M_isName) (f := jf_M_isName) (ps := jp_M_isName) (nL := 3) rfl rfl (jaRun_go (jaCall_self jaAr jaMt D) [3] 13 _ _ _ _ h)
theorem jb_M_isName_3 {D : Nat} {kk : Int32 → jaT → Prop} {σ : jaT} {x1 : Int32} {x2 : Int32} (h :
  ((nI 29) ≤ x2 → (x1 = 0 ∨ x1 = 1) ∧ kk x1 σ) ∧
  (¬ (nI 29) ≤ x2 → 
    (x1 = 0 → jc_M_isName_3 D kk (nI 0) (x2 + (nI 1)) σ) ∧
    (¬ x1 = 0 → 
      vp_in x2 29 ∧ (((lg_cmp ((σ 20).2 70 0 20) ((σ 20).2 79 0 (jaIx x2))) = 0 → jc_M_isName_3 D kk (nI 0) (x2 + (nI 1)) σ) ∧
      (¬ (lg_cmp ((σ 20).2 70 0 20) ((σ 20).2 79 0 (jaIx x2))) = 0 → jc_M_isName_3 D kk (nI 1) (x2 + (nI 1)) σ))))) :
  jc_M_isName_3 D kk x1 x2 σ :=
  jaRun_go (jaCall_self jaAr jaMt D) [3] 21 _ _ _ _ h
abbrev jm_M_takes : jaM := (jf_M_takes, jp_M_takes, 3)
theorem js_M_takes {D : Nat} {kk : Int32 → jaT → Prop} {σ : jaT} {x1 : Int32} {x2 : Int32} (h :
  (((σ 20).1 70 0 14) = (nI 2) → 
    (jaDe D) jy_M_isIn [.inl ((σ 20).1 70 0 17), .inl x1, .inl x2] σ (jaKi fun r2 σ1 =>
      (¬ r2 = 0 → 
        let σ3 : jaT := jaU σ1 20 (jaUI (σ1 20) 70 0 21 ((σ1 20).1 70 0 17))
        (jaDe D) jy_M_next [.inr (.inr (70, 20, 0))] σ3 (jaKv fun σ4 =>
          ((nI 1) = 0 ∨ (nI 1) = 1) ∧ kk (nI 1) σ4)) ∧
      (r2 = 0 → 
        (jaDe D) jy_M_bad [.inr (.inr (70, 20, 0)), .inl (nI 2)] σ1 (jaKi fun r6 σ5 =>
          (r6 = 0 ∨ r6 = 1) ∧ kk r6 σ5)))) ∧
  (¬ ((σ 20).1 70 0 14) = (nI 2) → 
    (jaDe D) jy_M_bad [.inr (.inr (70, 20, 0)), .inl (nI 1)] σ (jaKi fun r8 σ7 =>
      (r8 = 0 ∨ r8 = 1) ∧ kk r8 σ7))) :
  jaDe (D + 1) jy_M_takes [.inr (.inr (70, 20, 0)), .inl x1, .inl x2] σ (jaKi kk) :=
  jaCall_intro (mt := jaMt) (y := jy_M_takes) (f := jf_M_takes) (ps := jp_M_takes) (nL := 3) rfl rfl (jaRun_go (jaCall_self jaAr jaMt D) [] 21 _ _ _ _ h)
abbrev jm_M_puts : jaM := (jf_M_puts, jp_M_puts, 4)
theorem js_M_puts {D : Nat} {kk : Int32 → jaT → Prop} {σ : jaT} {x1 : Int32} {x2 : Int32} {x3 : Int32} (h :
  (jaDe D) jy_M_takes [.inr (.inr (70, 20, 0)), .inl x2, .inl x3] σ (jaKi fun r2 σ1 =>
    (¬ r2 = 0 → 
      vp_in x1 31 ∧ 
      (let σ3 : jaT := jaU σ1 20 (jaUI (σ1 20) 73 0 (jaIx x1) ((σ1 20).1 70 0 21))
      ((nI 1) = 0 ∨ (nI 1) = 1) ∧ kk (nI 1) σ3)) ∧
    (r2 = 0 → ((nI 0) = 0 ∨ (nI 0) = 1) ∧ kk (nI 0) σ1))) :
  jaDe (D + 1) jy_M_puts [.inr (.inr (70, 20, 0)), .inl x1, .inl x2, .inl x3] σ (jaKi kk) :=
  jaCall_intro (mt := jaMt) (y := jy_M_puts) (f := jf_M_puts) (ps := jp_M_puts) (nL := 4) rfl rfl (jaRun_go (jaCall_self jaAr jaMt D) [] 16 _ _ _ _ h)
abbrev jm_M_seek : jaM := (jf_M_seek, jp_M_seek, 4)
def jc_M_seek_1 (D : Nat) (kk : Int32 → jaT → Prop) (x1 : Int32) (x2 : Int32) (x3 : Int32) (σ : jaT) : Prop := jaC (jaDe D) jm_M_seek (jaKi kk) 1 [some (.inr (.inr (70, 20, 0))), some (.inl x1), some (.inl x2), some (.inl x3)] [] σ
theorem js_M_seek {D : Nat} {kk : Int32 → jaT → Prop} {σ : jaT} {x1 : Int32} {x2 : Int32} (h :
  jc_M_seek_1 D kk x1 x2 (nI 0) σ) :
  jaDe (D + 1) jy_M_seek [.inr (.inr (70, 20, 0)), .inl x1, .inl x2] σ (jaKi kk) :=
  jaCall_intro (mt := jaMt) (y := jy_M_seek) (f := jf_M_seek) (ps := jp_M_seek) (nL := 4) rfl rfl (jaRun_go (jaCall_self jaAr jaMt D) [1] 6 _ _ _ _ h)
theorem jb_M_seek_1 {D : Nat} {kk : Int32 → jaT → Prop} {σ : jaT} {x1 : Int32} {x2 : Int32} {x3 : Int32} (h :
  (x2 ≤ x3 → kk (-1 : Int32) σ) ∧
  (¬ x2 ≤ x3 → 
    vp_in (x1 + x3) 32 ∧ ((¬ (lg_cmp ((σ 20).2 78 0 (jaIx (x1 + x3))) ((σ 20).2 70 0 20)) = 0 → jc_M_seek_1 D kk x1 x2 (x3 + (nI 1)) σ) ∧
    ((lg_cmp ((σ 20).2 78 0 (jaIx (x1 + x3))) ((σ 20).2 70 0 20)) = 0 → kk x3 σ)))) :
  jc_M_seek_1 D kk x1 x2 x3 σ :=
  jaRun_go (jaCall_self jaAr jaMt D) [1] 18 _ _ _ _ h
abbrev jm_M_fresh : jaM := (jf_M_fresh, jp_M_fresh, 2)
set_option maxRecDepth 20000 in
theorem js_M_fresh {D : Nat} {kk : Int32 → jaT → Prop} {σ : jaT} {x1 : Int32} (h :
  (jaDe D) jy_M_isName [.inr (.inr (70, 20, 0))] σ (jaKi fun r2 σ1 =>
    (¬ r2 = 0 → 
      vp_in (nI 0) 31 ∧ ((jaDe D) jy_M_seek [.inr (.inr (70, 20, 0)), .inl (nI 16), .inl ((σ1 20).1 73 0 (jaIx (nI 0)))] σ1 (jaKi fun r4 σ3 =>
        (0 ≤ r4 → 
          (jaDe D) jy_M_bad [.inr (.inr (70, 20, 0)), .inl (nI 3)] σ3 (jaKi fun r6 σ5 =>
            (r6 = 0 ∨ r6 = 1) ∧ kk r6 σ5)) ∧
        (¬ 0 ≤ r4 → 
          vp_in (nI 1) 31 ∧ ((jaDe D) jy_M_seek [.inr (.inr (70, 20, 0)), .inl (nI 19), .inl ((σ3 20).1 73 0 (jaIx (nI 1)))] σ3 (jaKi fun r8 σ7 =>
            (0 ≤ r8 → 
              (jaDe D) jy_M_bad [.inr (.inr (70, 20, 0)), .inl (nI 3)] σ7 (jaKi fun r10 σ9 =>
                (r10 = 0 ∨ r10 = 1) ∧ kk r10 σ9)) ∧
            (¬ 0 ≤ r8 → 
              vp_in (nI 2) 31 ∧ ((jaDe D) jy_M_seek [.inr (.inr (70, 20, 0)), .inl (nI 29), .inl ((σ7 20).1 73 0 (jaIx (nI 2)))] σ7 (jaKi fun r12 σ11 =>
                (r12 < 0 → 
                  vp_in x1 32 ∧ 
                  (let σ13 : jaT := jaU σ11 20 (jaUL (σ11 20) 78 0 (jaIx x1) ((σ11 20).2 70 0 20))
                  (jaDe D) jy_M_next [.inr (.inr (70, 20, 0))] σ13 (jaKv fun σ14 =>
                    ((nI 1) = 0 ∨ (nI 1) = 1) ∧ kk (nI 1) σ14))) ∧
                (¬ r12 < 0 → 
                  (jaDe D) jy_M_bad [.inr (.inr (70, 20, 0)), .inl (nI 3)] σ11 (jaKi fun r16 σ15 =>
                    (r16 = 0 ∨ r16 = 1) ∧ kk r16 σ15))))))))))) ∧
    (r2 = 0 → 
      (jaDe D) jy_M_bad [.inr (.inr (70, 20, 0)), .inl (nI 1)] σ1 (jaKi fun r18 σ17 =>
        (r18 = 0 ∨ r18 = 1) ∧ kk r18 σ17)))) :
  jaDe (D + 1) jy_M_fresh [.inr (.inr (70, 20, 0)), .inl x1] σ (jaKi kk) :=
  jaCall_intro (mt := jaMt) (y := jy_M_fresh) (f := jf_M_fresh) (ps := jp_M_fresh) (nL := 2) rfl rfl (jaRun_go (jaCall_self jaAr jaMt D) [] 40 _ _ _ _ h)
abbrev jm_M_looksAt : jaM := (jf_M_looksAt, jp_M_looksAt, 3)
theorem js_M_looksAt {D : Nat} {kk : Int32 → jaT → Prop} {σ : jaT} {x1 : Int32} {x2 : Int32} (h :
  (jaDe D) jy_M_isName [.inr (.inr (70, 20, 0))] σ (jaKi fun r2 σ1 =>
    (¬ r2 = 0 → 
      (jaDe D) jy_M_seek [.inr (.inr (70, 20, 0)), .inl x1, .inl x2] σ1 (jaKi fun r4 σ3 =>
        let σ5 : jaT := jaU σ3 20 (jaUI (σ3 20) 70 0 21 r4)
        (0 ≤ ((σ5 20).1 70 0 21) → ((nI 1) = 0 ∨ (nI 1) = 1) ∧ kk (nI 1) σ5) ∧
        (¬ 0 ≤ ((σ5 20).1 70 0 21) → 
          (jaDe D) jy_M_bad [.inr (.inr (70, 20, 0)), .inl (nI 3)] σ5 (jaKi fun r7 σ6 =>
            (r7 = 0 → ((nI 0) = 0 ∨ (nI 0) = 1) ∧ kk (nI 0) σ6) ∧
            (¬ r7 = 0 → ((nI 1) = 0 ∨ (nI 1) = 1) ∧ kk (nI 1) σ6))))) ∧
    (r2 = 0 → 
      (jaDe D) jy_M_bad [.inr (.inr (70, 20, 0)), .inl (nI 1)] σ1 (jaKi fun r9 σ8 =>
        (r9 = 0 ∨ r9 = 1) ∧ kk r9 σ8)))) :
  jaDe (D + 1) jy_M_looksAt [.inr (.inr (70, 20, 0)), .inl x1, .inl x2] σ (jaKi kk) :=
  jaCall_intro (mt := jaMt) (y := jy_M_looksAt) (f := jf_M_looksAt) (ps := jp_M_looksAt) (nL := 3) rfl rfl (jaRun_go (jaCall_self jaAr jaMt D) [] 23 _ _ _ _ h)
abbrev jm_M_takesName : jaM := (jf_M_takesName, jp_M_takesName, 3)
theorem js_M_takesName {D : Nat} {kk : Int32 → jaT → Prop} {σ : jaT} {x1 : Int32} {x2 : Int32} (h :
  (jaDe D) jy_M_looksAt [.inr (.inr (70, 20, 0)), .inl x1, .inl x2] σ (jaKi fun r2 σ1 =>
    (¬ r2 = 0 → 
      (jaDe D) jy_M_next [.inr (.inr (70, 20, 0))] σ1 (jaKv fun σ3 =>
        ((nI 1) = 0 ∨ (nI 1) = 1) ∧ kk (nI 1) σ3)) ∧
    (r2 = 0 → ((nI 0) = 0 ∨ (nI 0) = 1) ∧ kk (nI 0) σ1))) :
  jaDe (D + 1) jy_M_takesName [.inr (.inr (70, 20, 0)), .inl x1, .inl x2] σ (jaKi kk) :=
  jaCall_intro (mt := jaMt) (y := jy_M_takesName) (f := jf_M_takesName) (ps := jp_M_takesName) (nL := 3) rfl rfl (jaRun_go (jaCall_self jaAr jaMt D) [] 12 _ _ _ _ h)
abbrev jm_M_once : jaM := (jf_M_once, jp_M_once, 2)
theorem js_M_once {D : Nat} {kk : Int32 → jaT → Prop} {σ : jaT} {x1 : Int32} (h :
  (jaDe D) jy_M_bitOf [.inl ((σ 20).1 70 0 23), .inl x1] σ (jaKi fun r2 σ1 =>
    (r2 = 0 → 
      let σ3 : jaT := jaU σ1 20 (jaUI (σ1 20) 70 0 23 (((σ1 20).1 70 0 23) ||| ((nI 1) <<< (x1 &&& 31))))
      (jaDe D) jy_M_next [.inr (.inr (70, 20, 0))] σ3 (jaKv fun σ4 =>
        ((nI 1) = 0 ∨ (nI 1) = 1) ∧ kk (nI 1) σ4)) ∧
    (¬ r2 = 0 → 
      (jaDe D) jy_M_bad [.inr (.inr (70, 20, 0)), .inl (nI 3)] σ1 (jaKi fun r6 σ5 =>
        (r6 = 0 ∨ r6 = 1) ∧ kk r6 σ5)))) :
  jaDe (D + 1) jy_M_once [.inr (.inr (70, 20, 0)), .inl x1] σ (jaKi kk) :=
  jaCall_intro (mt := jaMt) (y := jy_M_once) (f := jf_M_once) (ps := jp_M_once) (nL := 2) rfl rfl (jaRun_go (jaCall_self jaAr jaMt D) [] 20 _ _ _ _ h)
abbrev jm_M_readLine : jaM := (jf_M_readLine, jp_M_readLine, 1)
theorem js_M_readLine {D : Nat} {kk : Int32 → jaT → Prop} {σ : jaT}  (h :
  (jaDe D) jy_M_isWord [.inr (.inr (70, 20, 0)), .inr (.inl (Int64.ofNat 435678045032))] σ (jaKi fun r2 σ1 =>
    (r2 = 0 → 
      (jaDe D) jy_M_isWord [.inr (.inr (70, 20, 0)), .inr (.inl (Int64.ofNat 1818848875))] σ1 (jaKi fun r4 σ3 =>
        (r4 = 0 → 
          (jaDe D) jy_M_isWord [.inr (.inr (70, 20, 0)), .inr (.inl (Int64.ofNat 1936290917))] σ3 (jaKi fun r6 σ5 =>
            (r6 = 0 → 
              (jaDe D) jy_M_isWord [.inr (.inr (70, 20, 0)), .inr (.inl (Int64.ofNat 7038329))] σ5 (jaKi fun r8 σ7 =>
                (r8 = 0 → 
                  (jaDe D) jy_M_isWord [.inr (.inr (70, 20, 0)), .inr (.inl (Int64.ofNat 1668247673))] σ7 (jaKi fun r10 σ9 =>
                    (r10 = 0 → 
                      (jaDe D) jy_M_bad [.inr (.inr (70, 20, 0)), .inl (nI 1)] σ9 (jaKi fun r12 σ11 =>
                        (r12 = 0 ∨ r12 = 1) ∧ kk r12 σ11)) ∧
                    (¬ r10 = 0 → 
                      (jaDe D) jy_M_readCopy [.inr (.inr (70, 20, 0))] σ9 (jaKi fun r14 σ13 =>
                        (r14 = 0 ∨ r14 = 1) ∧ kk r14 σ13)))) ∧
                (¬ r8 = 0 → 
                  (jaDe D) jy_M_readKey [.inr (.inr (70, 20, 0))] σ7 (jaKi fun r16 σ15 =>
                    (r16 = 0 ∨ r16 = 1) ∧ kk r16 σ15)))) ∧
            (¬ r6 = 0 → 
              (jaDe D) jy_M_readSite [.inr (.inr (70, 20, 0))] σ5 (jaKi fun r18 σ17 =>
                (r18 = 0 ∨ r18 = 1) ∧ kk r18 σ17)))) ∧
        (¬ r4 = 0 → 
          (jaDe D) jy_M_once [.inr (.inr (70, 20, 0)), .inl (nI 1)] σ3 (jaKi fun r20 σ19 =>
            (r20 = 0 → ((nI 0) = 0 ∨ (nI 0) = 1) ∧ kk (nI 0) σ19) ∧
            (¬ r20 = 0 → 
              (jaDe D) jy_M_puts [.inr (.inr (70, 20, 0)), .inl (nI 4), .inl (nI 0), .inl (nI 9)] σ19 (jaKi fun r22 σ21 =>
                (r22 = 0 → ((nI 0) = 0 ∨ (nI 0) = 1) ∧ kk (nI 0) σ21) ∧
                (¬ r22 = 0 → ((nI 1) = 0 ∨ (nI 1) = 1) ∧ kk (nI 1) σ21))))))) ∧
    (¬ r2 = 0 → 
      (jaDe D) jy_M_once [.inr (.inr (70, 20, 0)), .inl (nI 0)] σ1 (jaKi fun r24 σ23 =>
        (r24 = 0 → ((nI 0) = 0 ∨ (nI 0) = 1) ∧ kk (nI 0) σ23) ∧
        (¬ r24 = 0 → 
          (jaDe D) jy_M_puts [.inr (.inr (70, 20, 0)), .inl (nI 3), .inl (nI 1), .inl (nI 20)] σ23 (jaKi fun r26 σ25 =>
            (r26 = 0 → ((nI 0) = 0 ∨ (nI 0) = 1) ∧ kk (nI 0) σ25) ∧
            (¬ r26 = 0 → ((nI 1) = 0 ∨ (nI 1) = 1) ∧ kk (nI 1) σ25))))))) :
  jaDe (D + 1) jy_M_readLine [.inr (.inr (70, 20, 0))] σ (jaKi kk) :=
  jaCall_intro (mt := jaMt) (y := jy_M_readLine) (f := jf_M_readLine) (ps := jp_M_readLine) (nL := 1) rfl rfl (jaRun_go (jaCall_self jaAr jaMt D) [] 28 _ _ _ _ h)
abbrev jm_M_readSite : jaM := (jf_M_readSite, jp_M_readSite, 2)
theorem js_M_readSite {D : Nat} {kk : Int32 → jaT → Prop} {σ : jaT}  (h :
  vp_in (nI 0) 31 ∧ ((¬ ((σ 20).1 73 0 (jaIx (nI 0))) = (nI 3) → 
    (jaDe D) jy_M_next [.inr (.inr (70, 20, 0))] σ (jaKv fun σ1 =>
      (jaDe D) jy_M_fresh [.inr (.inr (70, 20, 0)), .inl ((nI 16) + ((σ 20).1 73 0 (jaIx (nI 0))))] σ1 (jaKi fun r3 σ2 =>
        (¬ r3 = 0 → 
          vp_in (nI 0) 31 ∧ (vp_in (nI 0) 31 ∧ 
          (let σ4 : jaT := jaU σ2 20 (jaUI (σ2 20) 73 0 (jaIx (nI 0)) (((σ2 20).1 73 0 (jaIx (nI 0))) + (nI 1)))
          ((nI 1) = 0 ∨ (nI 1) = 1) ∧ kk (nI 1) σ4))) ∧
        (r3 = 0 → ((nI 0) = 0 ∨ (nI 0) = 1) ∧ kk (nI 0) σ2)))) ∧
  (((σ 20).1 73 0 (jaIx (nI 0))) = (nI 3) → 
    (jaDe D) jy_M_bad [.inr (.inr (70, 20, 0)), .inl (nI 4)] σ (jaKi fun r6 σ5 =>
      (r6 = 0 ∨ r6 = 1) ∧ kk r6 σ5)))) :
  jaDe (D + 1) jy_M_readSite [.inr (.inr (70, 20, 0))] σ (jaKi kk) :=
  jaCall_intro (mt := jaMt) (y := jy_M_readSite) (f := jf_M_readSite) (ps := jp_M_readSite) (nL := 2) rfl rfl (jaRun_go (jaCall_self jaAr jaMt D) [] 29 _ _ _ _ h)
abbrev jm_M_readKey : jaM := (jf_M_readKey, jp_M_readKey, 2)
set_option maxRecDepth 20000 in
theorem js_M_readKey {D : Nat} {kk : Int32 → jaT → Prop} {σ : jaT}  (h :
  vp_in (nI 1) 31 ∧ ((¬ ((σ 20).1 73 0 (jaIx (nI 1))) = (nI 10) → 
    (jaDe D) jy_M_next [.inr (.inr (70, 20, 0))] σ (jaKv fun σ1 =>
      (jaDe D) jy_M_fresh [.inr (.inr (70, 20, 0)), .inl ((nI 19) + ((σ 20).1 73 0 (jaIx (nI 1))))] σ1 (jaKi fun r3 σ2 =>
        (r3 = 0 → ((nI 0) = 0 ∨ (nI 0) = 1) ∧ kk (nI 0) σ2) ∧
        (¬ r3 = 0 → 
          vp_in (nI 0) 31 ∧ ((jaDe D) jy_M_takesName [.inr (.inr (70, 20, 0)), .inl (nI 16), .inl ((σ2 20).1 73 0 (jaIx (nI 0)))] σ2 (jaKi fun r5 σ4 =>
            (¬ r5 = 0 → 
              vp_in ((nI 5) + ((σ 20).1 73 0 (jaIx (nI 1)))) 31 ∧ 
              (let σ6 : jaT := jaU σ4 20 (jaUI (σ4 20) 73 0 (jaIx ((nI 5) + ((σ 20).1 73 0 (jaIx (nI 1))))) ((σ4 20).1 70 0 21))
              (jaDe D) jy_M_puts [.inr (.inr (70, 20, 0)), .inl ((nI 15) + ((σ 20).1 73 0 (jaIx (nI 1)))), .inl (nI 0), .inl (nI 999)] σ6 (jaKi fun r8 σ7 =>
                (¬ r8 = 0 → 
                  vp_in (nI 1) 31 ∧ (vp_in (nI 1) 31 ∧ 
                  (let σ9 : jaT := jaU σ7 20 (jaUI (σ7 20) 73 0 (jaIx (nI 1)) (((σ7 20).1 73 0 (jaIx (nI 1))) + (nI 1)))
                  ((nI 1) = 0 ∨ (nI 1) = 1) ∧ kk (nI 1) σ9))) ∧
                (r8 = 0 → ((nI 0) = 0 ∨ (nI 0) = 1) ∧ kk (nI 0) σ7)))) ∧
            (r5 = 0 → ((nI 0) = 0 ∨ (nI 0) = 1) ∧ kk (nI 0) σ4))))))) ∧
  (((σ 20).1 73 0 (jaIx (nI 1))) = (nI 10) → 
    (jaDe D) jy_M_bad [.inr (.inr (70, 20, 0)), .inl (nI 4)] σ (jaKi fun r11 σ10 =>
      (r11 = 0 ∨ r11 = 1) ∧ kk r11 σ10)))) :
  jaDe (D + 1) jy_M_readKey [.inr (.inr (70, 20, 0))] σ (jaKi kk) :=
  jaCall_intro (mt := jaMt) (y := jy_M_readKey) (f := jf_M_readKey) (ps := jp_M_readKey) (nL := 2) rfl rfl (jaRun_go (jaCall_self jaAr jaMt D) [] 53 _ _ _ _ h)
abbrev jm_M_readCopy : jaM := (jf_M_readCopy, jp_M_readCopy, 3)
set_option maxRecDepth 20000 in
theorem js_M_readCopy {D : Nat} {kk : Int32 → jaT → Prop} {σ : jaT}  (h :
  vp_in (nI 2) 31 ∧ ((¬ ((σ 20).1 73 0 (jaIx (nI 2))) = (nI 3) → 
    (jaDe D) jy_M_next [.inr (.inr (70, 20, 0))] σ (jaKv fun σ1 =>
      (jaDe D) jy_M_fresh [.inr (.inr (70, 20, 0)), .inl ((nI 29) + ((σ 20).1 73 0 (jaIx (nI 2))))] σ1 (jaKi fun r3 σ2 =>
        (r3 = 0 → ((nI 0) = 0 ∨ (nI 0) = 1) ∧ kk (nI 0) σ2) ∧
        (¬ r3 = 0 → 
          (jaDe D) jy_M_puts [.inr (.inr (70, 20, 0)), .inl ((nI 25) + ((σ 20).1 73 0 (jaIx (nI 2)))), .inl (nI 1), .inl (nI 4)] σ2 (jaKi fun r5 σ4 =>
            (¬ r5 = 0 → 
              (jaDe D) jy_M_isWord [.inr (.inr (70, 20, 0)), .inr (.inl (Int64.ofNat 1818325876))] σ4 (jaKi fun r7 σ6 =>
                (¬ r7 = 0 → 
                  (r7 = 0 → 
                    vp_in ((nI 28) + ((σ 20).1 73 0 (jaIx (nI 2)))) 31 ∧ 
                    (let σ8 : jaT := jaU σ6 20 (jaUI (σ6 20) 73 0 (jaIx ((nI 28) + ((σ 20).1 73 0 (jaIx (nI 2))))) (nI 0))
                    (jaDe D) jy_M_next [.inr (.inr (70, 20, 0))] σ8 (jaKv fun σ9 =>
                      vp_in (nI 2) 31 ∧ (vp_in (nI 2) 31 ∧ 
                      (let σ10 : jaT := jaU σ9 20 (jaUI (σ9 20) 73 0 (jaIx (nI 2)) (((σ9 20).1 73 0 (jaIx (nI 2))) + (nI 1)))
                      ((nI 1) = 0 ∨ (nI 1) = 1) ∧ kk (nI 1) σ10))))) ∧
                  (¬ r7 = 0 → 
                    vp_in ((nI 28) + ((σ 20).1 73 0 (jaIx (nI 2)))) 31 ∧ 
                    (let σ11 : jaT := jaU σ6 20 (jaUI (σ6 20) 73 0 (jaIx ((nI 28) + ((σ 20).1 73 0 (jaIx (nI 2))))) (nI 1))
                    (jaDe D) jy_M_next [.inr (.inr (70, 20, 0))] σ11 (jaKv fun σ12 =>
                      vp_in (nI 2) 31 ∧ (vp_in (nI 2) 31 ∧ 
                      (let σ13 : jaT := jaU σ12 20 (jaUI (σ12 20) 73 0 (jaIx (nI 2)) (((σ12 20).1 73 0 (jaIx (nI 2))) + (nI 1)))
                      ((nI 1) = 0 ∨ (nI 1) = 1) ∧ kk (nI 1) σ13)))))) ∧
                (r7 = 0 → 
                  (jaDe D) jy_M_isWord [.inr (.inr (70, 20, 0)), .inr (.inl (Int64.ofNat 439855772532))] σ6 (jaKi fun r15 σ14 =>
                    (¬ r15 = 0 → 
                      (r7 = 0 → 
                        vp_in ((nI 28) + ((σ 20).1 73 0 (jaIx (nI 2)))) 31 ∧ 
                        (let σ16 : jaT := jaU σ14 20 (jaUI (σ14 20) 73 0 (jaIx ((nI 28) + ((σ 20).1 73 0 (jaIx (nI 2))))) (nI 0))
                        (jaDe D) jy_M_next [.inr (.inr (70, 20, 0))] σ16 (jaKv fun σ17 =>
                          vp_in (nI 2) 31 ∧ (vp_in (nI 2) 31 ∧ 
                          (let σ18 : jaT := jaU σ17 20 (jaUI (σ17 20) 73 0 (jaIx (nI 2)) (((σ17 20).1 73 0 (jaIx (nI 2))) + (nI 1)))
                          ((nI 1) = 0 ∨ (nI 1) = 1) ∧ kk (nI 1) σ18))))) ∧
                      (¬ r7 = 0 → 
                        vp_in ((nI 28) + ((σ 20).1 73 0 (jaIx (nI 2)))) 31 ∧ 
                        (let σ19 : jaT := jaU σ14 20 (jaUI (σ14 20) 73 0 (jaIx ((nI 28) + ((σ 20).1 73 0 (jaIx (nI 2))))) (nI 1))
                        (jaDe D) jy_M_next [.inr (.inr (70, 20, 0))] σ19 (jaKv fun σ20 =>
                          vp_in (nI 2) 31 ∧ (vp_in (nI 2) 31 ∧ 
                          (let σ21 : jaT := jaU σ20 20 (jaUI (σ20 20) 73 0 (jaIx (nI 2)) (((σ20 20).1 73 0 (jaIx (nI 2))) + (nI 1)))
                          ((nI 1) = 0 ∨ (nI 1) = 1) ∧ kk (nI 1) σ21)))))) ∧
                    (r15 = 0 → 
                      (jaDe D) jy_M_bad [.inr (.inr (70, 20, 0)), .inl (nI 1)] σ14 (jaKi fun r23 σ22 =>
                        (r23 = 0 ∨ r23 = 1) ∧ kk r23 σ22)))))) ∧
            (r5 = 0 → ((nI 0) = 0 ∨ (nI 0) = 1) ∧ kk (nI 0) σ4)))))) ∧
  (((σ 20).1 73 0 (jaIx (nI 2))) = (nI 3) → 
    (jaDe D) jy_M_bad [.inr (.inr (70, 20, 0)), .inl (nI 4)] σ (jaKi fun r25 σ24 =>
      (r25 = 0 ∨ r25 = 1) ∧ kk r25 σ24)))) :
  jaDe (D + 1) jy_M_readCopy [.inr (.inr (70, 20, 0))] σ (jaKi kk) :=
  jaCall_intro (mt := jaMt) (y := jy_M_readCopy) (f := jf_M_readCopy) (ps := jp_M_readCopy) (nL := 3) rfl rfl (jaRun_go (jaCall_self jaAr jaMt D) [] 59 _ _ _ _ h)
abbrev jm_M_world : jaM := (jf_M_world, jp_M_world, 3)
def jc_M_world_1 (D : Nat) (kk : Int32 → jaT → Prop)  (σ : jaT) : Prop := jaC (jaDe D) jm_M_world (jaKi kk) 1 [some (.inr (.inr (70, 20, 0))), none, none] [] σ
def jc_M_world_6 (D : Nat) (kk : Int32 → jaT → Prop) (x1 : Int32) (σ : jaT) : Prop := jaC (jaDe D) jm_M_world (jaKi kk) 6 [some (.inr (.inr (70, 20, 0))), some (.inl x1), none] [] σ
def jc_M_world_10 (D : Nat) (kk : Int32 → jaT → Prop) (x1 : Int32) (σ : jaT) : Prop := jaC (jaDe D) jm_M_world (jaKi kk) 10 [some (.inr (.inr (70, 20, 0))), some (.inl x1), none] [] σ
def jc_M_world_12 (D : Nat) (kk : Int32 → jaT → Prop) (x1 : Int32) (u2 : Option jaV) (σ : jaT) : Prop := jaC (jaDe D) jm_M_world (jaKi kk) 12 [some (.inr (.inr (70, 20, 0))), some (.inl x1), u2] [] σ
def jc_M_world_13 (D : Nat) (kk : Int32 → jaT → Prop) (x1 : Int32) (x2 : Int32) (σ : jaT) : Prop := jaC (jaDe D) jm_M_world (jaKi kk) 13 [some (.inr (.inr (70, 20, 0))), some (.inl x1), some (.inl x2)] [] σ
theorem js_M_world {D : Nat} {kk : Int32 → jaT → Prop} {σ : jaT}  (h :
  let σ1 : jaT := jaU σ 20 (jaUI (σ 20) 70 0 0 (nI 0))
  (jaDe D) jy_M_taken [.inr (.inr (70, 20, 0)), .inl (nI 900)] σ1 (jaKv fun σ2 =>
    let σ3 : jaT := jaU σ2 20 (jaUI (σ2 20) 70 0 18 (nI 0))
    let σ4 : jaT := jaU σ3 20 (jaUI (σ3 20) 70 0 22 (nI 0))
    let σ5 : jaT := jaU σ4 20 (jaUI (σ4 20) 70 0 23 (nI 0))
    (jaDe D) jy_M_clears [.inr (.inr (70, 20, 0))] σ5 (jaKv fun σ6 =>
      (jaDe D) jy_M_next [.inr (.inr (70, 20, 0))] σ6 (jaKv fun σ7 =>
        jc_M_world_1 D kk σ7)))) :
  jaDe (D + 1) jy_M_world [.inr (.inr (70, 20, 0))] σ (jaKi kk) :=
  jaCall_intro (mt := jaMt) (y := jy_M_world) (f := jf_M_world) (ps := jp_M_world) (nL := 3) rfl rfl (jaRun_go (jaCall_self jaAr jaMt D) [1, 6, 10, 12, 13] 23 _ _ _ _ h)
theorem jb_M_world_1 {D : Nat} {kk : Int32 → jaT → Prop} {σ : jaT}  (h :
  (((σ 20).1 70 0 14) = 0 → 
    vp_in (nI 2) 31 ∧ ((¬ ((σ 20).1 73 0 (jaIx (nI 2))) = 0 → jc_M_world_6 D kk (nI 0) σ) ∧
    (((σ 20).1 73 0 (jaIx (nI 2))) = 0 → 
      vp_in (nI 2) 31 ∧ 
      (let σ1 : jaT := jaU σ 20 (jaUI (σ 20) 73 0 (jaIx (nI 2)) (nI 1))
      vp_in (nI 25) 31 ∧ 
      (let σ2 : jaT := jaU σ1 20 (jaUI (σ1 20) 73 0 (jaIx (nI 25)) (nI 1))
      vp_in (nI 29) 32 ∧ 
      (let σ3 : jaT := jaU σ2 20 (jaUL (σ2 20) 78 0 (jaIx (nI 29)) (Int64.ofNat 0))
      jc_M_world_6 D kk (nI 0) σ3)))))) ∧
  (¬ ((σ 20).1 70 0 14) = 0 → 
    (jaDe D) jy_M_readLine [.inr (.inr (70, 20, 0))] σ (jaKi fun r5 σ4 =>
      (r5 = 0 → kk ((-1 : Int32) - ((σ4 20).1 70 0 19)) σ4) ∧
      (¬ r5 = 0 → 
        (jaDe D) jy_M_sign [.inr (.inr (70, 20, 0)), .inl (nI 59)] σ4 (jaKi fun r7 σ6 =>
          (¬ r7 = 0 → 
            let σ8 : jaT := jaU σ6 20 (jaUI (σ6 20) 70 0 22 (((σ6 20).1 70 0 22) + (nI 1)))
            jc_M_world_1 D kk σ8) ∧
          (r7 = 0 → kk ((-1 : Int32) - ((σ6 20).1 70 0 19)) σ6)))))) :
  jc_M_world_1 D kk σ :=
  jaRun_go (jaCall_self jaAr jaMt D) [1, 6, 10, 12, 13] 30 _ _ _ _ h
theorem jb_M_world_6 {D : Nat} {kk : Int32 → jaT → Prop} {σ : jaT} {x1 : Int32} (h :
  ((nI 706) ≤ x1 → jc_M_world_10 D kk (nI 0) σ) ∧
  (¬ (nI 706) ≤ x1 → 
    ((nI 31) ≤ x1 → 
      vp_in x1 706 ∧ 
      (let σ1 : jaT := jaU σ 20 (jaUI (σ 20) 72 0 (jaIx x1) (nI 0))
      jc_M_world_6 D kk (x1 + (nI 1)) σ1)) ∧
    (¬ (nI 31) ≤ x1 → 
      vp_in x1 31 ∧ (vp_in x1 706 ∧ 
      (let σ2 : jaT := jaU σ 20 (jaUI (σ 20) 72 0 (jaIx x1) ((σ 20).1 73 0 (jaIx x1)))
      jc_M_world_6 D kk (x1 + (nI 1)) σ2))))) :
  jc_M_world_6 D kk x1 σ :=
  jaRun_go (jaCall_self jaAr jaMt D) [1, 6, 10, 12, 13] 20 _ _ _ _ h
theorem jb_M_world_10 {D : Nat} {kk : Int32 → jaT → Prop} {σ : jaT} {x1 : Int32} (h :
  ((nI 16) ≤ x1 → jc_M_world_12 D kk (nI 0) none σ) ∧
  (¬ (nI 16) ≤ x1 → 
    vp_in ((nI 16) + x1) 32 ∧ (vp_in x1 32 ∧ 
    (let σ1 : jaT := jaU σ 20 (jaUL (σ 20) 78 0 (jaIx x1) ((σ 20).2 78 0 (jaIx ((nI 16) + x1))))
    jc_M_world_10 D kk (x1 + (nI 1)) σ1)))) :
  jc_M_world_10 D kk x1 σ :=
  jaRun_go (jaCall_self jaAr jaMt D) [1, 6, 10, 12, 13] 18 _ _ _ _ h
theorem jb_M_world_12 {D : Nat} {kk : Int32 → jaT → Prop} {σ : jaT} {x1 : Int32} {u2 : Option jaV} (h :
  ((nI 10) ≤ x1 → 
    let σ1 : jaT := jaU σ 20 (jaUI (σ 20) 70 0 33 (nI 0))
    kk ((σ1 20).1 70 0 22) σ1) ∧
  (¬ (nI 10) ≤ x1 → jc_M_world_13 D kk x1 (nI 0) σ)) :
  jc_M_world_12 D kk x1 u2 σ :=
  jaRun_go (jaCall_self jaAr jaMt D) [1, 6, 10, 12, 13] 12 _ _ _ _ h
theorem jb_M_world_13 {D : Nat} {kk : Int32 → jaT → Prop} {σ : jaT} {x1 : Int32} {x2 : Int32} (h :
  ((nI 3) ≤ x2 → 
    vp_in ((nI 15) + x1) 706 ∧ (vp_in ((nI 475) + x1) 706 ∧ 
    (let σ1 : jaT := jaU σ 20 (jaUI (σ 20) 72 0 (jaIx ((nI 475) + x1)) ((σ 20).1 72 0 (jaIx ((nI 15) + x1))))
    jc_M_world_12 D kk (x1 + (nI 1)) (some (.inl x2)) σ1))) ∧
  (¬ (nI 3) ≤ x2 → 
    vp_in ((nI 15) + x1) 706 ∧ (vp_in (((nI 145) + ((nI 10) * x2)) + x1) 706 ∧ 
    (let σ2 : jaT := jaU σ 20 (jaUI (σ 20) 72 0 (jaIx (((nI 145) + ((nI 10) * x2)) + x1)) ((σ 20).1 72 0 (jaIx ((nI 15) + x1))))
    jc_M_world_13 D kk x1 (x2 + (nI 1)) σ2)))) :
  jc_M_world_13 D kk x1 x2 σ :=
  jaRun_go (jaCall_self jaAr jaMt D) [1, 6, 10, 12, 13] 24 _ _ _ _ h
abbrev jm_M_fault : jaM := (jf_M_fault, jp_M_fault, 1)
theorem js_M_fault {D : Nat} {kk : Int32 → jaT → Prop} {σ : jaT}  (h :
  let σ1 : jaT := jaU σ 20 (jaUI (σ 20) 70 0 0 (nI 0))
  kk ((σ1 20).1 70 0 18) σ1) :
  jaDe (D + 1) jy_M_fault [.inr (.inr (70, 20, 0))] σ (jaKi kk) :=
  jaCall_intro (mt := jaMt) (y := jy_M_fault) (f := jf_M_fault) (ps := jp_M_fault) (nL := 1) rfl rfl (jaRun_go (jaCall_self jaAr jaMt D) [] 9 _ _ _ _ h)
abbrev jm_M_isSite : jaM := (jf_M_isSite, jp_M_isSite, 2)
theorem js_M_isSite {D : Nat} {kk : Int32 → jaT → Prop} {σ : jaT} {x1 : Int32} (h :
  vp_in (nI 0) 706 ∧ ((jaDe D) jy_M_isIn [.inl x1, .inl (nI 0), .inl (((σ 20).1 72 0 (jaIx (nI 0))) - (nI 1))] σ (jaKi fun r2 σ1 =>
    (r2 = 0 ∨ r2 = 1) ∧ kk r2 σ1))) :
  jaDe (D + 1) jy_M_isSite [.inr (.inr (70, 20, 0)), .inl x1] σ (jaKi kk) :=
  jaCall_intro (mt := jaMt) (y := jy_M_isSite) (f := jf_M_isSite) (ps := jp_M_isSite) (nL := 2) rfl rfl (jaRun_go (jaCall_self jaAr jaMt D) [] 13 _ _ _ _ h)
abbrev jm_M_isKey : jaM := (jf_M_isKey, jp_M_isKey, 2)
theorem js_M_isKey {D : Nat} {kk : Int32 → jaT → Prop} {σ : jaT} {x1 : Int32} (h :
  vp_in (nI 1) 706 ∧ ((jaDe D) jy_M_isIn [.inl x1, .inl (nI 0), .inl (((σ 20).1 72 0 (jaIx (nI 1))) - (nI 1))] σ (jaKi fun r2 σ1 =>
    (r2 = 0 ∨ r2 = 1) ∧ kk r2 σ1))) :
  jaDe (D + 1) jy_M_isKey [.inr (.inr (70, 20, 0)), .inl x1] σ (jaKi kk) :=
  jaCall_intro (mt := jaMt) (y := jy_M_isKey) (f := jf_M_isKey) (ps := jp_M_isKey) (nL := 2) rfl rfl (jaRun_go (jaCall_self jaAr jaMt D) [] 13 _ _ _ _ h)
abbrev jm_M_isCopy : jaM := (jf_M_isCopy, jp_M_isCopy, 2)
theorem js_M_isCopy {D : Nat} {kk : Int32 → jaT → Prop} {σ : jaT} {x1 : Int32} (h :
  vp_in (nI 2) 706 ∧ ((jaDe D) jy_M_isIn [.inl x1, .inl (nI 0), .inl (((σ 20).1 72 0 (jaIx (nI 2))) - (nI 1))] σ (jaKi fun r2 σ1 =>
    (r2 = 0 ∨ r2 = 1) ∧ kk r2 σ1))) :
  jaDe (D + 1) jy_M_isCopy [.inr (.inr (70, 20, 0)), .inl x1] σ (jaKi kk) :=
  jaCall_intro (mt := jaMt) (y := jy_M_isCopy) (f := jf_M_isCopy) (ps := jp_M_isCopy) (nL := 2) rfl rfl (jaRun_go (jaCall_self jaAr jaMt D) [] 13 _ _ _ _ h)
abbrev jm_M_isTrans : jaM := (jf_M_isTrans, jp_M_isTrans, 2)
theorem js_M_isTrans {D : Nat} {kk : Int32 → jaT → Prop} {σ : jaT} {x1 : Int32} (h :
  vp_in (nI 32) 706 ∧ ((jaDe D) jy_M_isIn [.inl x1, .inl (nI 0), .inl (((σ 20).1 72 0 (jaIx (nI 32))) - (nI 1))] σ (jaKi fun r2 σ1 =>
    (r2 = 0 ∨ r2 = 1) ∧ kk r2 σ1))) :
  jaDe (D + 1) jy_M_isTrans [.inr (.inr (70, 20, 0)), .inl x1] σ (jaKi kk) :=
  jaCall_intro (mt := jaMt) (y := jy_M_isTrans) (f := jf_M_isTrans) (ps := jp_M_isTrans) (nL := 2) rfl rfl (jaRun_go (jaCall_self jaAr jaMt D) [] 13 _ _ _ _ h)
abbrev jm_M_isEntry : jaM := (jf_M_isEntry, jp_M_isEntry, 2)
theorem js_M_isEntry {D : Nat} {kk : Int32 → jaT → Prop} {σ : jaT} {x1 : Int32} (h :
  vp_in (nI 34) 706 ∧ ((jaDe D) jy_M_isIn [.inl x1, .inl (nI 0), .inl (((σ 20).1 72 0 (jaIx (nI 34))) - (nI 1))] σ (jaKi fun r2 σ1 =>
    (r2 = 0 ∨ r2 = 1) ∧ kk r2 σ1))) :
  jaDe (D + 1) jy_M_isEntry [.inr (.inr (70, 20, 0)), .inl x1] σ (jaKi kk) :=
  jaCall_intro (mt := jaMt) (y := jy_M_isEntry) (f := jf_M_isEntry) (ps := jp_M_isEntry) (nL := 2) rfl rfl (jaRun_go (jaCall_self jaAr jaMt D) [] 13 _ _ _ _ h)
abbrev jm_M_takesAt : jaM := (jf_M_takesAt, jp_M_takesAt, 1)
set_option maxRecDepth 20000 in
theorem js_M_takesAt {D : Nat} {kk : Int32 → jaT → Prop} {σ : jaT}  (h :
  (jaDe D) jy_M_next [.inr (.inr (70, 20, 0))] σ (jaKv fun σ1 =>
    vp_in (nI 1) 706 ∧ ((jaDe D) jy_M_looksAt [.inr (.inr (70, 20, 0)), .inl (nI 3), .inl ((σ1 20).1 72 0 (jaIx (nI 1)))] σ1 (jaKi fun r3 σ2 =>
      (¬ r3 = 0 → 
        vp_in ((nI 3) + ((σ2 20).1 70 0 24)) 133 ∧ 
        (let σ4 : jaT := jaU σ2 20 (jaUI (σ2 20) 77 0 (jaIx ((nI 3) + ((σ2 20).1 70 0 24))) ((σ2 20).1 70 0 21))
        let σ5 : jaT := jaU σ4 20 (jaUI (σ4 20) 70 0 25 ((σ4 20).1 70 0 21))
        let σ6 : jaT := jaU σ5 20 (jaUI (σ5 20) 70 0 26 ((σ5 20).1 70 0 24))
        let σ7 : jaT := jaU σ6 20 (jaUI (σ6 20) 70 0 24 (((σ6 20).1 70 0 24) + (nI 1)))
        (jaDe D) jy_M_next [.inr (.inr (70, 20, 0))] σ7 (jaKv fun σ8 =>
          ((nI 1) = 0 ∨ (nI 1) = 1) ∧ kk (nI 1) σ8))) ∧
      (r3 = 0 → ((nI 0) = 0 ∨ (nI 0) = 1) ∧ kk (nI 0) σ2))))) :
  jaDe (D + 1) jy_M_takesAt [.inr (.inr (70, 20, 0))] σ (jaKi kk) :=
  jaCall_intro (mt := jaMt) (y := jy_M_takesAt) (f := jf_M_takesAt) (ps := jp_M_takesAt) (nL := 1) rfl rfl (jaRun_go (jaCall_self jaAr jaMt D) [] 40 _ _ _ _ h)
abbrev jm_M_takesRef : jaM := (jf_M_takesRef, jp_M_takesRef, 2)
theorem js_M_takesRef {D : Nat} {kk : Int32 → jaT → Prop} {σ : jaT} {x1 : Int32} (h :
  (jaDe D) jy_M_isWord [.inr (.inr (70, 20, 0)), .inr (.inl (Int64.ofNat 24948))] σ (jaKi fun r2 σ1 =>
    (r2 = 0 → 
      vp_in (nI 1) 706 ∧ ((jaDe D) jy_M_looksAt [.inr (.inr (70, 20, 0)), .inl (nI 3), .inl ((σ1 20).1 72 0 (jaIx (nI 1)))] σ1 (jaKi fun r4 σ3 =>
        (¬ r4 = 0 → 
          (x1 = 0 → 
            let σ5 : jaT := jaU σ3 20 (jaUI (σ3 20) 70 0 25 ((σ3 20).1 70 0 21))
            let σ6 : jaT := jaU σ5 20 (jaUI (σ5 20) 70 0 26 (-1 : Int32))
            (jaDe D) jy_M_next [.inr (.inr (70, 20, 0))] σ6 (jaKv fun σ7 =>
              ((nI 1) = 0 ∨ (nI 1) = 1) ∧ kk (nI 1) σ7)) ∧
          (¬ x1 = 0 → 
            (jaDe D) jy_M_bad [.inr (.inr (70, 20, 0)), .inl (nI 4)] σ3 (jaKi fun r9 σ8 =>
              (r9 = 0 ∨ r9 = 1) ∧ kk r9 σ8))) ∧
        (r4 = 0 → ((nI 0) = 0 ∨ (nI 0) = 1) ∧ kk (nI 0) σ3)))) ∧
    (¬ r2 = 0 → 
      (¬ x1 = 0 → 
        (jaDe D) jy_M_bad [.inr (.inr (70, 20, 0)), .inl (nI 4)] σ1 (jaKi fun r11 σ10 =>
          (r11 = 0 ∨ r11 = 1) ∧ kk r11 σ10)) ∧
      (x1 = 0 → 
        (¬ ((σ1 20).1 70 0 24) = (nI 4) → 
          (jaDe D) jy_M_takesAt [.inr (.inr (70, 20, 0))] σ1 (jaKi fun r13 σ12 =>
            (r13 = 0 ∨ r13 = 1) ∧ kk r13 σ12)) ∧
        (((σ1 20).1 70 0 24) = (nI 4) → 
          (jaDe D) jy_M_bad [.inr (.inr (70, 20, 0)), .inl (nI 4)] σ1 (jaKi fun r15 σ14 =>
            (r15 = 0 ∨ r15 = 1) ∧ kk r15 σ14)))))) :
  jaDe (D + 1) jy_M_takesRef [.inr (.inr (70, 20, 0)), .inl x1] σ (jaKi kk) :=
  jaCall_intro (mt := jaMt) (y := jy_M_takesRef) (f := jf_M_takesRef) (ps := jp_M_takesRef) (nL := 2) rfl rfl (jaRun_go (jaCall_self jaAr jaMt D) [] 28 _ _ _ _ h)
abbrev jm_M_takesTerm : jaM := (jf_M_takesTerm, jp_M_takesTerm, 6)
def jc_M_takesTerm_2 (D : Nat) (kk : Int32 → jaT → Prop) (x1 : Int32) (x2 : Int32) (x3 : Int32) (xs0 : Int32) (σ : jaT) : Prop := jaC (jaDe D) jm_M_takesTerm (jaKi kk) 2 [some (.inr (.inr (70, 20, 0))), some (.inl x1), some (.inl x2), some (.inl x3), none, none] [.inl xs0] σ
def jc_M_takesTerm_4 (D : Nat) (kk : Int32 → jaT → Prop) (x1 : Int32) (x2 : Int32) (x3 : Int32) (x4 : Int32) (xs0 : Int32) (xs1 : Int32) (xs2 : Int32) (σ : jaT) : Prop := jaC (jaDe D) jm_M_takesTerm (jaKi kk) 4 [some (.inr (.inr (70, 20, 0))), some (.inl x1), some (.inl x2), some (.inl x3), some (.inl x4), none] [.inl xs2, .inl xs1, .inl xs0] σ
def jc_M_takesTerm_8 (D : Nat) (kk : Int32 → jaT → Prop) (x1 : Int32) (x2 : Int32) (x3 : Int32) (x4 : Int32) (x5 : Int32) (σ : jaT) : Prop := jaC (jaDe D) jm_M_takesTerm (jaKi kk) 8 [some (.inr (.inr (70, 20, 0))), some (.inl x1), some (.inl x2), some (.inl x3), some (.inl x4), some (.inl x5)] [] σ
def jc_M_takesTerm_10 (D : Nat) (kk : Int32 → jaT → Prop) (x1 : Int32) (x2 : Int32) (x3 : Int32) (x4 : Int32) (x5 : Int32) (xs1 : Int32) (xs2 : Int32) (σ : jaT) : Prop := jaC (jaDe D) jm_M_takesTerm (jaKi kk) 10 [some (.inr (.inr (70, 20, 0))), some (.inl x1), some (.inl x2), some (.inl x3), some (.inl x4), some (.inl x5)] [.inl xs2, .inl xs1, .inr (.inr (77, 20, 0))] σ
theorem js_M_takesTerm {D : Nat} {kk : Int32 → jaT → Prop} {σ : jaT} {x1 : Int32} {x2 : Int32} (h :
  vp_in (x1 + (nI 4)) 133 ∧ ((¬ ((σ 20).1 77 0 (jaIx (x1 + (nI 4)))) = (nI 4) → 
    jc_M_takesTerm_2 D kk x1 x2 ((σ 20).1 77 0 (jaIx (x1 + (nI 4)))) (nI 0) σ) ∧
  (((σ 20).1 77 0 (jaIx (x1 + (nI 4)))) = (nI 4) → 
    jc_M_takesTerm_2 D kk x1 x2 ((σ 20).1 77 0 (jaIx (x1 + (nI 4)))) (nI 1) σ))) :
  jaDe (D + 1) jy_M_takesTerm [.inr (.inr (70, 20, 0)), .inl x1, .inl x2] σ (jaKi kk) :=
  jaCall_intro (mt := jaMt) (y := jy_M_takesTerm) (f := jf_M_takesTerm) (ps := jp_M_takesTerm) (nL := 6) rfl rfl (jaRun_go (jaCall_self jaAr jaMt D) [2, 4, 8, 10] 15 _ _ _ _ h)
theorem jb_M_takesTerm_2 {D : Nat} {kk : Int32 → jaT → Prop} {σ : jaT} {x1 : Int32} {x2 : Int32} {x3 : Int32} {xs0 : Int32} (h :
  (xs0 = 0 → 
    jc_M_takesTerm_4 D kk x1 x2 x3 xs0 (x1 + (nI 5)) (nI 4) x3 σ) ∧
  (¬ xs0 = 0 → 
    jc_M_takesTerm_4 D kk x1 x2 x3 xs0 (x1 + (nI 5)) (nI 4) (nI 0) σ)) :
  jc_M_takesTerm_2 D kk x1 x2 x3 xs0 σ :=
  jaRun_go (jaCall_self jaAr jaMt D) [2, 4, 8, 10] 12 _ _ _ _ h
theorem jb_M_takesTerm_4 {D : Nat} {kk : Int32 → jaT → Prop} {σ : jaT} {x1 : Int32} {x2 : Int32} {x3 : Int32} {x4 : Int32} {xs0 : Int32} {xs1 : Int32} {xs2 : Int32} (h :
  (¬ ((σ 20).1 70 0 14) = (nI 2) → 
    (jaDe D) jy_M_takesRef [.inr (.inr (70, 20, 0)), .inl x4] σ (jaKi fun r2 σ1 =>
      (¬ r2 = 0 → 
        vp_in (xs0 + (xs1 * xs2)) 133 ∧ 
        (let σ3 : jaT := jaU σ1 20 (jaUI (σ1 20) 77 0 (jaIx (xs0 + (xs1 * xs2))) (nI 1))
        vp_in ((xs0 + (xs1 * xs2)) + (nI 1)) 133 ∧ 
        (let σ4 : jaT := jaU σ3 20 (jaUI (σ3 20) 77 0 (jaIx ((xs0 + (xs1 * xs2)) + (nI 1))) ((σ3 20).1 70 0 25))
        vp_in ((xs0 + (xs1 * xs2)) + (nI 2)) 133 ∧ 
        (let σ5 : jaT := jaU σ4 20 (jaUI (σ4 20) 77 0 (jaIx ((xs0 + (xs1 * xs2)) + (nI 2))) ((σ4 20).1 70 0 26))
        jc_M_takesTerm_8 D kk x1 x2 x3 x4 (xs0 + (xs1 * xs2)) σ5)))) ∧
      (r2 = 0 → ((nI 0) = 0 ∨ (nI 0) = 1) ∧ kk (nI 0) σ1))) ∧
  (((σ 20).1 70 0 14) = (nI 2) → 
    (x4 = 0 → 
      vp_in (xs0 + (xs1 * xs2)) 133 ∧ 
      (let σ6 : jaT := jaU σ 20 (jaUI (σ 20) 77 0 (jaIx (xs0 + (xs1 * xs2))) (nI 0))
      vp_in ((xs0 + (xs1 * xs2)) + (nI 1)) 133 ∧ 
      (let σ7 : jaT := jaU σ6 20 (jaUI (σ6 20) 77 0 (jaIx ((xs0 + (xs1 * xs2)) + (nI 1))) ((σ6 20).1 70 0 17))
      vp_in ((xs0 + (xs1 * xs2)) + (nI 2)) 133 ∧ 
      (let σ8 : jaT := jaU σ7 20 (jaUI (σ7 20) 77 0 (jaIx ((xs0 + (xs1 * xs2)) + (nI 2))) (-1 : Int32))
      (jaDe D) jy_M_next [.inr (.inr (70, 20, 0))] σ8 (jaKv fun σ9 =>
        jc_M_takesTerm_8 D kk x1 x2 x3 x4 (xs0 + (xs1 * xs2)) σ9))))) ∧
    (¬ x4 = 0 → 
      (jaDe D) jy_M_bad [.inr (.inr (70, 20, 0)), .inl (nI 4)] σ (jaKi fun r11 σ10 =>
        (r11 = 0 ∨ r11 = 1) ∧ kk r11 σ10)))) :
  jc_M_takesTerm_4 D kk x1 x2 x3 x4 xs0 xs1 xs2 σ :=
  jaRun_go (jaCall_self jaAr jaMt D) [2, 4, 8, 10] 36 _ _ _ _ h
theorem jb_M_takesTerm_8 {D : Nat} {kk : Int32 → jaT → Prop} {σ : jaT} {x1 : Int32} {x2 : Int32} {x3 : Int32} {x4 : Int32} {x5 : Int32} (h :
  (x2 = 0 → 
    jc_M_takesTerm_10 D kk x1 x2 x3 x4 x5 (x5 + (nI 3)) (nI 0) σ) ∧
  (¬ x2 = 0 → 
    jc_M_takesTerm_10 D kk x1 x2 x3 x4 x5 (x5 + (nI 3)) (nI 1) σ)) :
  jc_M_takesTerm_8 D kk x1 x2 x3 x4 x5 σ :=
  jaRun_go (jaCall_self jaAr jaMt D) [2, 4, 8, 10] 12 _ _ _ _ h
theorem jb_M_takesTerm_10 {D : Nat} {kk : Int32 → jaT → Prop} {σ : jaT} {x1 : Int32} {x2 : Int32} {x3 : Int32} {x4 : Int32} {x5 : Int32} {xs1 : Int32} {xs2 : Int32} (h :
  vp_in xs1 133 ∧ 
  (let σ1 : jaT := jaU σ 20 (jaUI (σ 20) 77 0 (jaIx xs1) xs2)
  vp_in (x1 + (nI 4)) 133 ∧ (vp_in (x1 + (nI 4)) 133 ∧ 
  (let σ2 : jaT := jaU σ1 20 (jaUI (σ1 20) 77 0 (jaIx (x1 + (nI 4))) (((σ1 20).1 77 0 (jaIx (x1 + (nI 4)))) + (nI 1)))
  ((nI 1) = 0 ∨ (nI 1) = 1) ∧ kk (nI 1) σ2)))) :
  jc_M_takesTerm_10 D kk x1 x2 x3 x4 x5 xs1 xs2 σ :=
  jaRun_go (jaCall_self jaAr jaMt D) [2, 4, 8, 10] 16 _ _ _ _ h
abbrev jm_M_takesStep : jaM := (jf_M_takesStep, jp_M_takesStep, 6)
def jc_M_takesStep_2 (D : Nat) (kk : Int32 → jaT → Prop) (x1 : Int32) (xs0 : Int32) (σ : jaT) : Prop := jaC (jaDe D) jm_M_takesStep (jaKi kk) 2 [some (.inr (.inr (70, 20, 0))), some (.inl x1), none, none, none, none] [.inl xs0] σ
def jc_M_takesStep_4 (D : Nat) (kk : Int32 → jaT → Prop) (x1 : Int32) (x2 : Int32) (xs0 : Int32) (xs1 : Int32) (xs2 : Int32) (σ : jaT) : Prop := jaC (jaDe D) jm_M_takesStep (jaKi kk) 4 [some (.inr (.inr (70, 20, 0))), some (.inl x1), some (.inl x2), none, none, none] [.inl xs2, .inl xs1, .inl xs0] σ
def jc_M_takesStep_5 (D : Nat) (kk : Int32 → jaT → Prop) (x1 : Int32) (x2 : Int32) (x3 : Int32) (x4 : Int32) (σ : jaT) : Prop := jaC (jaDe D) jm_M_takesStep (jaKi kk) 5 [some (.inr (.inr (70, 20, 0))), some (.inl x1), some (.inl x2), some (.inl x3), some (.inl x4), none] [] σ
def jc_M_takesStep_6 (D : Nat) (kk : Int32 → jaT → Prop) (x1 : Int32) (x2 : Int32) (x3 : Int32) (x4 : Int32) (σ : jaT) : Prop := jaC (jaDe D) jm_M_takesStep (jaKi kk) 6 [some (.inr (.inr (70, 20, 0))), some (.inl x1), some (.inl x2), some (.inl x3), some (.inl x4), none] [] σ
def jc_M_takesStep_9 (D : Nat) (kk : Int32 → jaT → Prop) (x1 : Int32) (x2 : Int32) (x3 : Int32) (x4 : Int32) (xs1 : Int32) (xs2 : Int32) (σ : jaT) : Prop := jaC (jaDe D) jm_M_takesStep (jaKi kk) 9 [some (.inr (.inr (70, 20, 0))), some (.inl x1), some (.inl x2), some (.inl x3), some (.inl x4), none] [.inl xs2, .inl xs1, .inr (.inr (77, 20, 0))] σ
def jc_M_takesStep_11 (D : Nat) (kk : Int32 → jaT → Prop) (x1 : Int32) (x2 : Int32) (x3 : Int32) (x4 : Int32) (σ : jaT) : Prop := jaC (jaDe D) jm_M_takesStep (jaKi kk) 11 [some (.inr (.inr (70, 20, 0))), some (.inl x1), some (.inl x2), some (.inl x3), some (.inl x4), none] [] σ
def jc_M_takesStep_12 (D : Nat) (kk : Int32 → jaT → Prop) (x1 : Int32) (x2 : Int32) (x3 : Int32) (x4 : Int32) (σ : jaT) : Prop := jaC (jaDe D) jm_M_takesStep (jaKi kk) 12 [some (.inr (.inr (70, 20, 0))), some (.inl x1), some (.inl x2), some (.inl x3), some (.inl x4), none] [] σ
def jc_M_takesStep_13 (D : Nat) (kk : Int32 → jaT → Prop) (x1 : Int32) (x2 : Int32) (x3 : Int32) (x4 : Int32) (u5 : Option jaV) (σ : jaT) : Prop := jaC (jaDe D) jm_M_takesStep (jaKi kk) 13 [some (.inr (.inr (70, 20, 0))), some (.inl x1), some (.inl x2), some (.inl x3), some (.inl x4), u5] [] σ
def jc_M_takesStep_14 (D : Nat) (kk : Int32 → jaT → Prop) (x1 : Int32) (x2 : Int32) (x3 : Int32) (x4 : Int32) (u5 : Option jaV) (σ : jaT) : Prop := jaC (jaDe D) jm_M_takesStep (jaKi kk) 14 [some (.inr (.inr (70, 20, 0))), some (.inl x1), some (.inl x2), some (.inl x3), some (.inl x4), u5] [] σ
def jc_M_takesStep_16 (D : Nat) (kk : Int32 → jaT → Prop) (x1 : Int32) (x2 : Int32) (x3 : Int32) (x4 : Int32) (u5 : Option jaV) (σ : jaT) : Prop := jaC (jaDe D) jm_M_takesStep (jaKi kk) 16 [some (.inr (.inr (70, 20, 0))), some (.inl x1), some (.inl x2), some (.inl x3), some (.inl x4), u5] [] σ
theorem js_M_takesStep {D : Nat} {kk : Int32 → jaT → Prop} {σ : jaT} {x1 : Int32} (h :
  (¬ x1 = (nI 6) → jc_M_takesStep_2 D kk x1 (nI 0) σ) ∧
  (x1 = (nI 6) → jc_M_takesStep_2 D kk x1 (nI 1) σ)) :
  jaDe (D + 1) jy_M_takesStep [.inr (.inr (70, 20, 0)), .inl x1] σ (jaKi kk) :=
  jaCall_intro (mt := jaMt) (y := jy_M_takesStep) (f := jf_M_takesStep) (ps := jp_M_takesStep) (nL := 6) rfl rfl (jaRun_go (jaCall_self jaAr jaMt D) [2, 4, 5, 6, 9, 11, 12, 13, 14, 16] 8 _ _ _ _ h)
theorem jb_M_takesStep_2 {D : Nat} {kk : Int32 → jaT → Prop} {σ : jaT} {x1 : Int32} {xs0 : Int32} (h :
  (xs0 = 0 → jc_M_takesStep_4 D kk x1 xs0 (nI 7) (nI 21) x1 σ) ∧
  (¬ xs0 = 0 → jc_M_takesStep_4 D kk x1 xs0 (nI 7) (nI 21) (nI 0) σ)) :
  jc_M_takesStep_2 D kk x1 xs0 σ :=
  jaRun_go (jaCall_self jaAr jaMt D) [2, 4, 5, 6, 9, 11, 12, 13, 14, 16] 10 _ _ _ _ h
theorem jb_M_takesStep_4 {D : Nat} {kk : Int32 → jaT → Prop} {σ : jaT} {x1 : Int32} {x2 : Int32} {xs0 : Int32} {xs1 : Int32} {xs2 : Int32} (h :
  (jaDe D) jy_M_isWord [.inr (.inr (70, 20, 0)), .inr (.inl (Int64.ofNat 1852138852))] σ (jaKi fun r2 σ1 =>
    (r2 = 0 → jc_M_takesStep_5 D kk x1 x2 (xs0 + (xs1 * xs2)) r2 σ1) ∧
    (¬ r2 = 0 → 
      (x2 = 0 → jc_M_takesStep_5 D kk x1 x2 (xs0 + (xs1 * xs2)) r2 σ1) ∧
      (¬ x2 = 0 → 
        (jaDe D) jy_M_bad [.inr (.inr (70, 20, 0)), .inl (nI 4)] σ1 (jaKi fun r4 σ3 =>
          (r4 = 0 ∨ r4 = 1) ∧ kk r4 σ3))))) :
  jc_M_takesStep_4 D kk x1 x2 xs0 xs1 xs2 σ :=
  jaRun_go (jaCall_self jaAr jaMt D) [2, 4, 5, 6, 9, 11, 12, 13, 14, 16] 18 _ _ _ _ h
theorem jb_M_takesStep_5 {D : Nat} {kk : Int32 → jaT → Prop} {σ : jaT} {x1 : Int32} {x2 : Int32} {x3 : Int32} {x4 : Int32} (h :
  (x4 = 0 → jc_M_takesStep_6 D kk x1 x2 x3 x4 σ) ∧
  (¬ x4 = 0 → 
    (jaDe D) jy_M_next [.inr (.inr (70, 20, 0))] σ (jaKv fun σ1 =>
      jc_M_takesStep_6 D kk x1 x2 x3 x4 σ1))) :
  jc_M_takesStep_5 D kk x1 x2 x3 x4 σ :=
  jaRun_go (jaCall_self jaAr jaMt D) [2, 4, 5, 6, 9, 11, 12, 13, 14, 16] 8 _ _ _ _ h
theorem jb_M_takesStep_6 {D : Nat} {kk : Int32 → jaT → Prop} {σ : jaT} {x1 : Int32} {x2 : Int32} {x3 : Int32} {x4 : Int32} (h :
  (jaDe D) jy_M_takesRef [.inr (.inr (70, 20, 0)), .inl x2] σ (jaKi fun r2 σ1 =>
    (¬ r2 = 0 → 
      (x4 = 0 → jc_M_takesStep_9 D kk x1 x2 x3 x4 x3 (nI 0) σ1) ∧
      (¬ x4 = 0 → jc_M_takesStep_9 D kk x1 x2 x3 x4 x3 (nI 1) σ1)) ∧
    (r2 = 0 → ((nI 0) = 0 ∨ (nI 0) = 1) ∧ kk (nI 0) σ1))) :
  jc_M_takesStep_6 D kk x1 x2 x3 x4 σ :=
  jaRun_go (jaCall_self jaAr jaMt D) [2, 4, 5, 6, 9, 11, 12, 13, 14, 16] 14 _ _ _ _ h
set_option maxRecDepth 20000 in
theorem jb_M_takesStep_9 {D : Nat} {kk : Int32 → jaT → Prop} {σ : jaT} {x1 : Int32} {x2 : Int32} {x3 : Int32} {x4 : Int32} {xs1 : Int32} {xs2 : Int32} (h :
  vp_in xs1 133 ∧ 
  (let σ1 : jaT := jaU σ 20 (jaUI (σ 20) 77 0 (jaIx xs1) xs2)
  vp_in (x3 + (nI 1)) 133 ∧ 
  (let σ2 : jaT := jaU σ1 20 (jaUI (σ1 20) 77 0 (jaIx (x3 + (nI 1))) ((σ1 20).1 70 0 25))
  vp_in (x3 + (nI 2)) 133 ∧ 
  (let σ3 : jaT := jaU σ2 20 (jaUI (σ2 20) 77 0 (jaIx (x3 + (nI 2))) ((σ2 20).1 70 0 26))
  vp_in (x3 + (nI 4)) 133 ∧ 
  (let σ4 : jaT := jaU σ3 20 (jaUI (σ3 20) 77 0 (jaIx (x3 + (nI 4))) (nI 0))
  (¬ ((σ4 20).1 70 0 14) = (nI 3) → jc_M_takesStep_11 D kk x1 x2 x3 x4 σ4) ∧
  (((σ4 20).1 70 0 14) = (nI 3) → 
    (x4 = 0 → 
      (((σ4 20).1 70 0 17) = (nI 61) → jc_M_takesStep_12 D kk x1 x2 x3 x4 σ4) ∧
      (¬ ((σ4 20).1 70 0 17) = (nI 61) → jc_M_takesStep_11 D kk x1 x2 x3 x4 σ4)) ∧
    (¬ x4 = 0 → 
      (jaDe D) jy_M_isIn [.inl ((σ4 20).1 70 0 17), .inl (nI 60), .inl (nI 62)] σ4 (jaKi fun r6 σ5 =>
        (¬ r6 = 0 → jc_M_takesStep_12 D kk x1 x2 x3 x4 σ5) ∧
        (r6 = 0 → jc_M_takesStep_11 D kk x1 x2 x3 x4 σ5))))))))) :
  jc_M_takesStep_9 D kk x1 x2 x3 x4 xs1 xs2 σ :=
  jaRun_go (jaCall_self jaAr jaMt D) [2, 4, 5, 6, 9, 11, 12, 13, 14, 16] 40 _ _ _ _ h
theorem jb_M_takesStep_11 {D : Nat} {kk : Int32 → jaT → Prop} {σ : jaT} {x1 : Int32} {x2 : Int32} {x3 : Int32} {x4 : Int32} (h :
  (jaDe D) jy_M_bad [.inr (.inr (70, 20, 0)), .inl (nI 1)] σ (jaKi fun r2 σ1 =>
    (r2 = 0 ∨ r2 = 1) ∧ kk r2 σ1)) :
  jc_M_takesStep_11 D kk x1 x2 x3 x4 σ :=
  jaRun_go (jaCall_self jaAr jaMt D) [2, 4, 5, 6, 9, 11, 12, 13, 14, 16] 7 _ _ _ _ h
theorem jb_M_takesStep_12 {D : Nat} {kk : Int32 → jaT → Prop} {σ : jaT} {x1 : Int32} {x2 : Int32} {x3 : Int32} {x4 : Int32} (h :
  vp_in (x3 + (nI 3)) 133 ∧ 
  (let σ1 : jaT := jaU σ 20 (jaUI (σ 20) 77 0 (jaIx (x3 + (nI 3))) ((σ 20).1 70 0 17))
  (jaDe D) jy_M_next [.inr (.inr (70, 20, 0))] σ1 (jaKv fun σ2 =>
    (jaDe D) jy_M_takesTerm [.inr (.inr (70, 20, 0)), .inl x3, .inl (nI 0)] σ2 (jaKi fun r4 σ3 =>
      (¬ r4 = 0 → jc_M_takesStep_13 D kk x1 x2 x3 x4 none σ3) ∧
      (r4 = 0 → ((nI 0) = 0 ∨ (nI 0) = 1) ∧ kk (nI 0) σ3))))) :
  jc_M_takesStep_12 D kk x1 x2 x3 x4 σ :=
  jaRun_go (jaCall_self jaAr jaMt D) [2, 4, 5, 6, 9, 11, 12, 13, 14, 16] 20 _ _ _ _ h
theorem jb_M_takesStep_13 {D : Nat} {kk : Int32 → jaT → Prop} {σ : jaT} {x1 : Int32} {x2 : Int32} {x3 : Int32} {x4 : Int32} {u5 : Option jaV} (h :
  (¬ x4 = 0 → jc_M_takesStep_16 D kk x1 x2 x3 x4 u5 σ) ∧
  (x4 = 0 → 
    (jaDe D) jy_M_isSign [.inr (.inr (70, 20, 0)), .inl (nI 43)] σ (jaKi fun r2 σ1 =>
      (¬ r2 = 0 → jc_M_takesStep_14 D kk x1 x2 x3 x4 u5 σ1) ∧
      (r2 = 0 → 
        (jaDe D) jy_M_isSign [.inr (.inr (70, 20, 0)), .inl (nI 45)] σ1 (jaKi fun r4 σ3 =>
          (r4 = 0 → jc_M_takesStep_16 D kk x1 x2 x3 x4 u5 σ3) ∧
          (¬ r4 = 0 → jc_M_takesStep_14 D kk x1 x2 x3 x4 u5 σ3)))))) :
  jc_M_takesStep_13 D kk x1 x2 x3 x4 u5 σ :=
  jaRun_go (jaCall_self jaAr jaMt D) [2, 4, 5, 6, 9, 11, 12, 13, 14, 16] 14 _ _ _ _ h
theorem jb_M_takesStep_14 {D : Nat} {kk : Int32 → jaT → Prop} {σ : jaT} {x1 : Int32} {x2 : Int32} {x3 : Int32} {x4 : Int32} {u5 : Option jaV} (h :
  (jaDe D) jy_M_isSign [.inr (.inr (70, 20, 0)), .inl (nI 45)] σ (jaKi fun r2 σ1 =>
    (jaDe D) jy_M_next [.inr (.inr (70, 20, 0))] σ1 (jaKv fun σ3 =>
      (jaDe D) jy_M_takesTerm [.inr (.inr (70, 20, 0)), .inl x3, .inl r2] σ3 (jaKi fun r5 σ4 =>
        (¬ r5 = 0 → jc_M_takesStep_13 D kk x1 x2 x3 x4 (some (.inl r2)) σ4) ∧
        (r5 = 0 → ((nI 0) = 0 ∨ (nI 0) = 1) ∧ kk (nI 0) σ4))))) :
  jc_M_takesStep_14 D kk x1 x2 x3 x4 u5 σ :=
  jaRun_go (jaCall_self jaAr jaMt D) [2, 4, 5, 6, 9, 11, 12, 13, 14, 16] 16 _ _ _ _ h
theorem jb_M_takesStep_16 {D : Nat} {kk : Int32 → jaT → Prop} {σ : jaT} {x1 : Int32} {x2 : Int32} {x3 : Int32} {x4 : Int32} {u5 : Option jaV} (h :
  ((nI 1) = 0 ∨ (nI 1) = 1) ∧ kk (nI 1) σ) :
  jc_M_takesStep_16 D kk x1 x2 x3 x4 u5 σ :=
  jaRun_go (jaCall_self jaAr jaMt D) [2, 4, 5, 6, 9, 11, 12, 13, 14, 16] 5 _ _ _ _ h
abbrev jm_M_submit : jaM := (jf_M_submit, jp_M_submit, 4)
def jc_M_submit_3 (D : Nat) (kk : Int32 → jaT → Prop) (x1 : Int32) (x2 : Int32) (σ : jaT) : Prop := jaC (jaDe D) jm_M_submit (jaKi kk) 3 [some (.inr (.inr (70, 20, 0))), some (.inl x1), some (.inl x2), none] [] σ
def jc_M_submit_8 (D : Nat) (kk : Int32 → jaT → Prop) (x1 : Int32) (x2 : Int32) (x3 : Int32) (σ : jaT) : Prop := jaC (jaDe D) jm_M_submit (jaKi kk) 8 [some (.inr (.inr (70, 20, 0))), some (.inl x1), some (.inl x2), some (.inl x3)] [] σ
theorem js_M_submit {D : Nat} {kk : Int32 → jaT → Prop} {σ : jaT} {x1 : Int32} (h :
  let σ1 : jaT := jaU σ 20 (jaUI (σ 20) 70 0 0 (nI 0))
  (jaDe D) jy_M_isSite [.inr (.inr (70, 20, 0)), .inl x1] σ1 (jaKi fun r3 σ2 =>
    (r3 = 0 → kk (-1000 : Int32) σ2) ∧
    (¬ r3 = 0 → 
      vp_in (nI 32) 706 ∧ ((¬ ((σ2 20).1 72 0 (jaIx (nI 32))) = (nI 24) → 
        (jaDe D) jy_M_taken [.inr (.inr (70, 20, 0)), .inl (nI 200)] σ2 (jaKv fun σ4 =>
          let σ5 : jaT := jaU σ4 20 (jaUI (σ4 20) 70 0 18 (nI 0))
          let σ6 : jaT := jaU σ5 20 (jaUI (σ5 20) 70 0 24 (nI 0))
          (jaDe D) jy_M_next [.inr (.inr (70, 20, 0))] σ6 (jaKv fun σ7 =>
            jc_M_submit_3 D kk x1 (nI 0) σ7))) ∧
      (((σ2 20).1 72 0 (jaIx (nI 32))) = (nI 24) → kk (-1000 : Int32) σ2))))) :
  jaDe (D + 1) jy_M_submit [.inr (.inr (70, 20, 0)), .inl x1] σ (jaKi kk) :=
  jaCall_intro (mt := jaMt) (y := jy_M_submit) (f := jf_M_submit) (ps := jp_M_submit) (nL := 4) rfl rfl (jaRun_go (jaCall_self jaAr jaMt D) [3, 8] 30 _ _ _ _ h)
theorem jb_M_submit_3 {D : Nat} {kk : Int32 → jaT → Prop} {σ : jaT} {x1 : Int32} {x2 : Int32} (h :
  (x2 = 0 → 
    (jaDe D) jy_M_takesStep [.inr (.inr (70, 20, 0)), .inl x2] σ (jaKi fun r2 σ1 =>
      (r2 = 0 → kk ((-2 : Int32) - ((σ1 20).1 70 0 19)) σ1) ∧
      (¬ r2 = 0 → 
        (jaDe D) jy_M_sign [.inr (.inr (70, 20, 0)), .inl (nI 59)] σ1 (jaKi fun r4 σ3 =>
          (¬ r4 = 0 → jc_M_submit_3 D kk x1 (x2 + (nI 1)) σ3) ∧
          (r4 = 0 → kk ((-2 : Int32) - ((σ3 20).1 70 0 19)) σ3))))) ∧
  (¬ x2 = 0 → 
    (((σ 20).1 70 0 14) = 0 → 
      vp_in (nI 0) 133 ∧ 
      (let σ5 : jaT := jaU σ 20 (jaUI (σ 20) 77 0 (jaIx (nI 0)) x1)
      vp_in (nI 1) 133 ∧ 
      (let σ6 : jaT := jaU σ5 20 (jaUI (σ5 20) 77 0 (jaIx (nI 1)) x2)
      vp_in (nI 2) 133 ∧ 
      (let σ7 : jaT := jaU σ6 20 (jaUI (σ6 20) 77 0 (jaIx (nI 2)) ((σ6 20).1 70 0 24))
      (jaDe D) jy_M_stores [.inr (.inr (70, 20, 0))] σ7 (jaKv fun σ8 =>
        jc_M_submit_8 D kk x1 x2 (nI 0) σ8))))) ∧
    (¬ ((σ 20).1 70 0 14) = 0 → 
      (jaDe D) jy_M_takesStep [.inr (.inr (70, 20, 0)), .inl x2] σ (jaKi fun r10 σ9 =>
        (r10 = 0 → kk ((-2 : Int32) - ((σ9 20).1 70 0 19)) σ9) ∧
        (¬ r10 = 0 → 
          (jaDe D) jy_M_sign [.inr (.inr (70, 20, 0)), .inl (nI 59)] σ9 (jaKi fun r12 σ11 =>
            (¬ r12 = 0 → jc_M_submit_3 D kk x1 (x2 + (nI 1)) σ11) ∧
            (r12 = 0 → kk ((-2 : Int32) - ((σ11 20).1 70 0 19)) σ11))))))) :
  jc_M_submit_3 D kk x1 x2 σ :=
  jaRun_go (jaCall_self jaAr jaMt D) [3, 8] 29 _ _ _ _ h
theorem jb_M_submit_8 {D : Nat} {kk : Int32 → jaT → Prop} {σ : jaT} {x1 : Int32} {x2 : Int32} {x3 : Int32} (h :
  ((nI 133) ≤ x3 → 
    vp_in (nI 32) 706 ∧ (vp_in (nI 32) 706 ∧ 
    (let σ1 : jaT := jaU σ 20 (jaUI (σ 20) 72 0 (jaIx (nI 32)) (((σ 20).1 72 0 (jaIx (nI 32))) + (nI 1)))
    vp_in (nI 32) 706 ∧ ((jaDe D) jy_M_comes [.inr (.inr (70, 20, 0)), .inl (((σ1 20).1 72 0 (jaIx (nI 32))) - (nI 1))] σ1 (jaKv fun σ2 =>
      vp_in (nI 32) 706 ∧ kk (((σ2 20).1 72 0 (jaIx (nI 32))) - (nI 1)) σ2))))) ∧
  (¬ (nI 133) ≤ x3 → 
    vp_in (nI 32) 706 ∧ (vp_in x3 133 ∧ (vp_in (((nI 133) * ((σ 20).1 72 0 (jaIx (nI 32)))) + x3) 3192 ∧ 
    (let σ3 : jaT := jaU σ 20 (jaUI (σ 20) 75 0 (jaIx (((nI 133) * ((σ 20).1 72 0 (jaIx (nI 32)))) + x3)) ((σ 20).1 77 0 (jaIx x3)))
    jc_M_submit_8 D kk x1 x2 (x3 + (nI 1)) σ3))))) :
  jc_M_submit_8 D kk x1 x2 x3 σ :=
  jaRun_go (jaCall_self jaAr jaMt D) [3, 8] 29 _ _ _ _ h
abbrev jm_M_atKey : jaM := (jf_M_atKey, jp_M_atKey, 3)
theorem js_M_atKey {D : Nat} {kk : Int32 → jaT → Prop} {σ : jaT} {x1 : Int32} (h :
  vp_in ((nI 145) + x1) 706 ∧ (vp_in (nI 1) 706 ∧ (¬ ((σ 20).1 72 0 (jaIx (nI 1))) = 0 ∧ ((0 ≤ (((σ 20).1 72 0 (jaIx ((nI 145) + x1))) - ((σ 20).1 72 0 (jaIx ((nI 145) + x1))) / ((σ 20).1 72 0 (jaIx (nI 1))) * ((σ 20).1 72 0 (jaIx (nI 1)))) → 
    kk (((σ 20).1 72 0 (jaIx ((nI 145) + x1))) - ((σ 20).1 72 0 (jaIx ((nI 145) + x1))) / ((σ 20).1 72 0 (jaIx (nI 1))) * ((σ 20).1 72 0 (jaIx (nI 1)))) σ) ∧
  (¬ 0 ≤ (((σ 20).1 72 0 (jaIx ((nI 145) + x1))) - ((σ 20).1 72 0 (jaIx ((nI 145) + x1))) / ((σ 20).1 72 0 (jaIx (nI 1))) * ((σ 20).1 72 0 (jaIx (nI 1)))) → 
    vp_in (nI 1) 706 ∧ kk ((((σ 20).1 72 0 (jaIx ((nI 145) + x1))) - ((σ 20).1 72 0 (jaIx ((nI 145) + x1))) / ((σ 20).1 72 0 (jaIx (nI 1))) * ((σ 20).1 72 0 (jaIx (nI 1)))) + ((σ 20).1 72 0 (jaIx (nI 1)))) σ))))) :
  jaDe (D + 1) jy_M_atKey [.inr (.inr (70, 20, 0)), .inl x1] σ (jaKi kk) :=
  jaCall_intro (mt := jaMt) (y := jy_M_atKey) (f := jf_M_atKey) (ps := jp_M_atKey) (nL := 3) rfl rfl (jaRun_go (jaCall_self jaAr jaMt D) [] 25 _ _ _ _ h)
abbrev jm_M_keyBy : jaM := (jf_M_keyBy, jp_M_keyBy, 4)
theorem js_M_keyBy {D : Nat} {kk : Int32 → jaT → Prop} {σ : jaT} {x1 : Int32} {x2 : Int32} {x3 : Int32} (h :
  (0 ≤ x3 → 
    vp_in ((((nI 9) * x1) + (nI 5)) + x3) 576 ∧ kk ((σ 20).1 76 0 (jaIx ((((nI 9) * x1) + (nI 5)) + x3))) σ) ∧
  (¬ 0 ≤ x3 → kk x2 σ)) :
  jaDe (D + 1) jy_M_keyBy [.inr (.inr (70, 20, 0)), .inl x1, .inl x2, .inl x3] σ (jaKi kk) :=
  jaCall_intro (mt := jaMt) (y := jy_M_keyBy) (f := jf_M_keyBy) (ps := jp_M_keyBy) (nL := 4) rfl rfl (jaRun_go (jaCall_self jaAr jaMt D) [] 17 _ _ _ _ h)
abbrev jm_M_comes : jaM := (jf_M_comes, jp_M_comes, 11)
def jc_M_comes_1 (D : Nat) (kk : jaT → Prop) (x1 : Int32) (x2 : Int32) (x3 : Int32) (x4 : Int32) (x5 : Int32) (x6 : Int32) (x7 : Int32) (σ : jaT) : Prop := jaC (jaDe D) jm_M_comes (jaKv kk) 1 [some (.inr (.inr (70, 20, 0))), some (.inl x1), some (.inl x2), some (.inl x3), some (.inl x4), some (.inl x5), some (.inl x6), some (.inl x7), none, none, none] [] σ
def jc_M_comes_3 (D : Nat) (kk : jaT → Prop) (x1 : Int32) (x2 : Int32) (x3 : Int32) (x4 : Int32) (x5 : Int32) (x6 : Int32) (x7 : Int32) (u8 : Option jaV) (u9 : Option jaV) (u10 : Option jaV) (σ : jaT) : Prop := jaC (jaDe D) jm_M_comes (jaKv kk) 3 [some (.inr (.inr (70, 20, 0))), some (.inl x1), some (.inl x2), some (.inl x3), some (.inl x4), some (.inl x5), some (.inl x6), some (.inl x7), u8, u9, u10] [] σ
def jc_M_comes_6 (D : Nat) (kk : jaT → Prop) (x1 : Int32) (x2 : Int32) (x3 : Int32) (x4 : Int32) (x5 : Int32) (x6 : Int32) (x7 : Int32) (x8 : Int32) (x9 : Int32) (x10 : Int32) (σ : jaT) : Prop := jaC (jaDe D) jm_M_comes (jaKv kk) 6 [some (.inr (.inr (70, 20, 0))), some (.inl x1), some (.inl x2), some (.inl x3), some (.inl x4), some (.inl x5), some (.inl x6), some (.inl x7), some (.inl x8), some (.inl x9), some (.inl x10)] [] σ
def jc_M_comes_10 (D : Nat) (kk : jaT → Prop) (x1 : Int32) (x2 : Int32) (x3 : Int32) (x4 : Int32) (x5 : Int32) (x6 : Int32) (x7 : Int32) (x8 : Int32) (u9 : Option jaV) (u10 : Option jaV) (σ : jaT) : Prop := jaC (jaDe D) jm_M_comes (jaKv kk) 10 [some (.inr (.inr (70, 20, 0))), some (.inl x1), some (.inl x2), some (.inl x3), some (.inl x4), some (.inl x5), some (.inl x6), some (.inl x7), some (.inl x8), u9, u10] [] σ
theorem js_M_comes {D : Nat} {kk : jaT → Prop} {σ : jaT} {x1 : Int32} (h :
  vp_in (nI 33) 706 ∧ jc_M_comes_1 D kk x1 ((σ 20).1 72 0 (jaIx (nI 33))) ((nI 9) * ((σ 20).1 72 0 (jaIx (nI 33)))) ((nI 133) * x1) (nI 0) (nI 0) (nI 0) σ) :
  jaDe (D + 1) jy_M_comes [.inr (.inr (70, 20, 0)), .inl x1] σ (jaKv kk) :=
  jaCall_intro (mt := jaMt) (y := jy_M_comes) (f := jf_M_comes) (ps := jp_M_comes) (nL := 11) rfl rfl (jaRun_go (jaCall_self jaAr jaMt D) [1, 3, 6, 10] 23 _ _ _ _ h)
set_option maxRecDepth 20000 in
theorem jb_M_comes_1 {D : Nat} {kk : jaT → Prop} {σ : jaT} {x1 : Int32} {x2 : Int32} {x3 : Int32} {x4 : Int32} {x5 : Int32} {x6 : Int32} {x7 : Int32} (h :
  vp_in (x4 + (nI 2)) 3192 ∧ ((((σ 20).1 75 0 (jaIx (x4 + (nI 2)))) ≤ x7 → jc_M_comes_3 D kk x1 x2 x3 x4 x5 x6 (nI 0) none none none σ) ∧
  (¬ ((σ 20).1 75 0 (jaIx (x4 + (nI 2)))) ≤ x7 → 
    vp_in ((x4 + (nI 3)) + x7) 3192 ∧ ((jaDe D) jy_M_atKey [.inr (.inr (70, 20, 0)), .inl ((σ 20).1 75 0 (jaIx ((x4 + (nI 3)) + x7)))] σ (jaKi fun r2 σ1 =>
      vp_in ((x3 + (nI 5)) + x7) 576 ∧ 
      (let σ3 : jaT := jaU σ1 20 (jaUI (σ1 20) 76 0 (jaIx ((x3 + (nI 5)) + x7)) r2)
      vp_in ((x4 + (nI 3)) + x7) 3192 ∧ jc_M_comes_1 D kk x1 x2 x3 x4 (x5 ||| ((nI 1) <<< (((σ3 20).1 75 0 (jaIx ((x4 + (nI 3)) + x7))) &&& 31))) x6 (x7 + (nI 1)) σ3)))))) :
  jc_M_comes_1 D kk x1 x2 x3 x4 x5 x6 x7 σ :=
  jaRun_go (jaCall_self jaAr jaMt D) [1, 3, 6, 10] 44 _ _ _ _ h
set_option maxRecDepth 20000 in
theorem jb_M_comes_3 {D : Nat} {kk : jaT → Prop} {σ : jaT} {x1 : Int32} {x2 : Int32} {x3 : Int32} {x4 : Int32} {x5 : Int32} {x6 : Int32} {x7 : Int32} {u8 : Option jaV} {u9 : Option jaV} {u10 : Option jaV} (h :
  vp_in (x4 + (nI 1)) 3192 ∧ ((((σ 20).1 75 0 (jaIx (x4 + (nI 1)))) ≤ x7 → jc_M_comes_10 D kk x1 x2 x3 x4 x5 x6 (nI 0) (nI 0) u9 u10 σ) ∧
  (¬ ((σ 20).1 75 0 (jaIx (x4 + (nI 1)))) ≤ x7 → 
    vp_in (((x4 + (nI 7)) + ((nI 21) * x7)) + (nI 1)) 3192 ∧ (vp_in (((x4 + (nI 7)) + ((nI 21) * x7)) + (nI 2)) 3192 ∧ ((jaDe D) jy_M_keyBy [.inr (.inr (70, 20, 0)), .inl x2, .inl ((σ 20).1 75 0 (jaIx (((x4 + (nI 7)) + ((nI 21) * x7)) + (nI 1)))), .inl ((σ 20).1 75 0 (jaIx (((x4 + (nI 7)) + ((nI 21) * x7)) + (nI 2))))] σ (jaKi fun r2 σ1 =>
      vp_in ((x4 + (nI 7)) + ((nI 21) * x7)) 3192 ∧ ((¬ ((σ1 20).1 75 0 (jaIx ((x4 + (nI 7)) + ((nI 21) * x7)))) = 0 → 
        jc_M_comes_6 D kk x1 x2 x3 x4 (x5 ||| ((nI 1) <<< (r2 &&& 31))) x6 x7 ((x4 + (nI 7)) + ((nI 21) * x7)) r2 (nI 0) σ1) ∧
      (((σ1 20).1 75 0 (jaIx ((x4 + (nI 7)) + ((nI 21) * x7)))) = 0 → 
        jc_M_comes_6 D kk x1 x2 x3 x4 x5 (x6 ||| ((nI 1) <<< (r2 &&& 31))) x7 ((x4 + (nI 7)) + ((nI 21) * x7)) r2 (nI 0) σ1)))))))) :
  jc_M_comes_3 D kk x1 x2 x3 x4 x5 x6 x7 u8 u9 u10 σ :=
  jaRun_go (jaCall_self jaAr jaMt D) [1, 3, 6, 10] 50 _ _ _ _ h
set_option maxRecDepth 20000 in
theorem jb_M_comes_6 {D : Nat} {kk : jaT → Prop} {σ : jaT} {x1 : Int32} {x2 : Int32} {x3 : Int32} {x4 : Int32} {x5 : Int32} {x6 : Int32} {x7 : Int32} {x8 : Int32} {x9 : Int32} {x10 : Int32} (h :
  vp_in (x8 + (nI 4)) 3192 ∧ ((((σ 20).1 75 0 (jaIx (x8 + (nI 4)))) ≤ x10 → 
    jc_M_comes_3 D kk x1 x2 x3 x4 x5 x6 (x7 + (nI 1)) (some (.inl x8)) (some (.inl x9)) (some (.inl x10)) σ) ∧
  (¬ ((σ 20).1 75 0 (jaIx (x8 + (nI 4)))) ≤ x10 → 
    vp_in ((x8 + (nI 5)) + ((nI 4) * x10)) 3192 ∧ ((¬ ((σ 20).1 75 0 (jaIx ((x8 + (nI 5)) + ((nI 4) * x10)))) = (nI 1) → 
      jc_M_comes_6 D kk x1 x2 x3 x4 x5 x6 x7 x8 x9 (x10 + (nI 1)) σ) ∧
    (((σ 20).1 75 0 (jaIx ((x8 + (nI 5)) + ((nI 4) * x10)))) = (nI 1) → 
      vp_in ((x8 + (nI 6)) + ((nI 4) * x10)) 3192 ∧ (vp_in ((x8 + (nI 7)) + ((nI 4) * x10)) 3192 ∧ (jaDe D) jy_M_keyBy [.inr (.inr (70, 20, 0)), .inl x2, .inl ((σ 20).1 75 0 (jaIx ((x8 + (nI 6)) + ((nI 4) * x10)))), .inl ((σ 20).1 75 0 (jaIx ((x8 + (nI 7)) + ((nI 4) * x10))))] σ (jaKi fun r2 σ1 =>
        jc_M_comes_6 D kk x1 x2 x3 x4 (x5 ||| ((nI 1) <<< (r2 &&& 31))) x6 x7 x8 x9 (x10 + (nI 1)) σ1))))))) :
  jc_M_comes_6 D kk x1 x2 x3 x4 x5 x6 x7 x8 x9 x10 σ :=
  jaRun_go (jaCall_self jaAr jaMt D) [1, 3, 6, 10] 54 _ _ _ _ h
set_option maxRecDepth 20000 in
theorem jb_M_comes_10 {D : Nat} {kk : jaT → Prop} {σ : jaT} {x1 : Int32} {x2 : Int32} {x3 : Int32} {x4 : Int32} {x5 : Int32} {x6 : Int32} {x7 : Int32} {x8 : Int32} {u9 : Option jaV} {u10 : Option jaV} (h :
  vp_in (nI 1) 706 ∧ ((((σ 20).1 72 0 (jaIx (nI 1))) ≤ x8 → 
    vp_in x3 576 ∧ 
    (let σ1 : jaT := jaU σ 20 (jaUI (σ 20) 76 0 (jaIx x3) x1)
    vp_in x4 3192 ∧ (vp_in (x3 + (nI 1)) 576 ∧ 
    (let σ2 : jaT := jaU σ1 20 (jaUI (σ1 20) 76 0 (jaIx (x3 + (nI 1))) ((σ1 20).1 75 0 (jaIx x4)))
    vp_in (x3 + (nI 2)) 576 ∧ 
    (let σ3 : jaT := jaU σ2 20 (jaUI (σ2 20) 76 0 (jaIx (x3 + (nI 2))) (x5 &&& (x6 ^^^ (-1 : Int32))))
    vp_in (x3 + (nI 3)) 576 ∧ 
    (let σ4 : jaT := jaU σ3 20 (jaUI (σ3 20) 76 0 (jaIx (x3 + (nI 3))) x6)
    (jaDe D) jy_M_bits [.inl x7] σ4 (jaKi fun r6 σ5 =>
      (r6 ≤ (nI 1) → 
        vp_in (x3 + (nI 4)) 576 ∧ 
        (let σ7 : jaT := jaU σ5 20 (jaUI (σ5 20) 76 0 (jaIx (x3 + (nI 4))) (nI 0))
        vp_in (nI 33) 706 ∧ (vp_in (nI 33) 706 ∧ 
        (let σ8 : jaT := jaU σ7 20 (jaUI (σ7 20) 72 0 (jaIx (nI 33)) (((σ7 20).1 72 0 (jaIx (nI 33))) + (nI 1)))
        vp_in (nI 35) 706 ∧ (vp_in ((nI 81) + ((σ8 20).1 72 0 (jaIx (nI 35)))) 706 ∧ 
        (let σ9 : jaT := jaU σ8 20 (jaUI (σ8 20) 72 0 (jaIx ((nI 81) + ((σ8 20).1 72 0 (jaIx (nI 35))))) x2)
        vp_in (nI 35) 706 ∧ (vp_in (nI 35) 706 ∧ 
        (let σ10 : jaT := jaU σ9 20 (jaUI (σ9 20) 72 0 (jaIx (nI 35)) (((σ9 20).1 72 0 (jaIx (nI 35))) + (nI 1)))
        kk σ10)))))))) ∧
      (¬ r6 ≤ (nI 1) → 
        vp_in (x3 + (nI 4)) 576 ∧ 
        (let σ11 : jaT := jaU σ5 20 (jaUI (σ5 20) 76 0 (jaIx (x3 + (nI 4))) (nI 1))
        vp_in (nI 33) 706 ∧ (vp_in (nI 33) 706 ∧ 
        (let σ12 : jaT := jaU σ11 20 (jaUI (σ11 20) 72 0 (jaIx (nI 33)) (((σ11 20).1 72 0 (jaIx (nI 33))) + (nI 1)))
        vp_in (nI 35) 706 ∧ (vp_in ((nI 81) + ((σ12 20).1 72 0 (jaIx (nI 35)))) 706 ∧ 
        (let σ13 : jaT := jaU σ12 20 (jaUI (σ12 20) 72 0 (jaIx ((nI 81) + ((σ12 20).1 72 0 (jaIx (nI 35))))) x2)
        vp_in (nI 35) 706 ∧ (vp_in (nI 35) 706 ∧ 
        (let σ14 : jaT := jaU σ13 20 (jaUI (σ13 20) 72 0 (jaIx (nI 35)) (((σ13 20).1 72 0 (jaIx (nI 35))) + (nI 1)))
        kk σ14))))))))))))))) ∧
  (¬ ((σ 20).1 72 0 (jaIx (nI 1))) ≤ x8 → 
    (jaDe D) jy_M_bitOf [.inl (x5 ||| x6), .inl x8] σ (jaKi fun r16 σ15 =>
      (r16 = 0 → 
        jc_M_comes_10 D kk x1 x2 x3 x4 x5 x6 (x7 ||| (nI 0)) (x8 + (nI 1)) u9 u10 σ15) ∧
      (¬ r16 = 0 → 
        vp_in ((nI 5) + x8) 706 ∧ jc_M_comes_10 D kk x1 x2 x3 x4 x5 x6 (x7 ||| ((nI 1) <<< (((σ15 20).1 72 0 (jaIx ((nI 5) + x8))) &&& 31))) (x8 + (nI 1)) u9 u10 σ15))))) :
  jc_M_comes_10 D kk x1 x2 x3 x4 x5 x6 x7 x8 u9 u10 σ :=
  jaRun_go (jaCall_self jaAr jaMt D) [1, 3, 6, 10] 81 _ _ _ _ h
abbrev jm_M_idAt : jaM := (jf_M_idAt, jp_M_idAt, 2)
theorem js_M_idAt {D : Nat} {kk : Int32 → jaT → Prop} {σ : jaT} {x1 : Int32} (h :
  vp_in ((nI 41) + x1) 706 ∧ kk ((σ 20).1 72 0 (jaIx ((nI 41) + x1))) σ) :
  jaDe (D + 1) jy_M_idAt [.inr (.inr (70, 20, 0)), .inl x1] σ (jaKi kk) :=
  jaCall_intro (mt := jaMt) (y := jy_M_idAt) (f := jf_M_idAt) (ps := jp_M_idAt) (nL := 2) rfl rfl (jaRun_go (jaCall_self jaAr jaMt D) [] 10 _ _ _ _ h)
abbrev jm_M_readsOf : jaM := (jf_M_readsOf, jp_M_readsOf, 2)
theorem js_M_readsOf {D : Nat} {kk : Int32 → jaT → Prop} {σ : jaT} {x1 : Int32} (h :
  (jaDe D) jy_M_idAt [.inr (.inr (70, 20, 0)), .inl x1] σ (jaKi fun r2 σ1 =>
    vp_in (((nI 9) * r2) + (nI 2)) 576 ∧ kk ((σ1 20).1 76 0 (jaIx (((nI 9) * r2) + (nI 2)))) σ1)) :
  jaDe (D + 1) jy_M_readsOf [.inr (.inr (70, 20, 0)), .inl x1] σ (jaKi kk) :=
  jaCall_intro (mt := jaMt) (y := jy_M_readsOf) (f := jf_M_readsOf) (ps := jp_M_readsOf) (nL := 2) rfl rfl (jaRun_go (jaCall_self jaAr jaMt D) [] 14 _ _ _ _ h)
abbrev jm_M_writesOf : jaM := (jf_M_writesOf, jp_M_writesOf, 2)
theorem js_M_writesOf {D : Nat} {kk : Int32 → jaT → Prop} {σ : jaT} {x1 : Int32} (h :
  (jaDe D) jy_M_idAt [.inr (.inr (70, 20, 0)), .inl x1] σ (jaKi fun r2 σ1 =>
    vp_in (((nI 9) * r2) + (nI 3)) 576 ∧ kk ((σ1 20).1 76 0 (jaIx (((nI 9) * r2) + (nI 3)))) σ1)) :
  jaDe (D + 1) jy_M_writesOf [.inr (.inr (70, 20, 0)), .inl x1] σ (jaKi kk) :=
  jaCall_intro (mt := jaMt) (y := jy_M_writesOf) (f := jf_M_writesOf) (ps := jp_M_writesOf) (nL := 2) rfl rfl (jaRun_go (jaCall_self jaAr jaMt D) [] 14 _ _ _ _ h)
abbrev jm_M_isWide : jaM := (jf_M_isWide, jp_M_isWide, 2)
theorem js_M_isWide {D : Nat} {kk : Int32 → jaT → Prop} {σ : jaT} {x1 : Int32} (h :
  (jaDe D) jy_M_idAt [.inr (.inr (70, 20, 0)), .inl x1] σ (jaKi fun r2 σ1 =>
    vp_in (((nI 9) * r2) + (nI 4)) 576 ∧ ((¬ ((σ1 20).1 76 0 (jaIx (((nI 9) * r2) + (nI 4)))) = (nI 1) → ((nI 0) = 0 ∨ (nI 0) = 1) ∧ kk (nI 0) σ1) ∧
    (((σ1 20).1 76 0 (jaIx (((nI 9) * r2) + (nI 4)))) = (nI 1) → ((nI 1) = 0 ∨ (nI 1) = 1) ∧ kk (nI 1) σ1)))) :
  jaDe (D + 1) jy_M_isWide [.inr (.inr (70, 20, 0)), .inl x1] σ (jaKi kk) :=
  jaCall_intro (mt := jaMt) (y := jy_M_isWide) (f := jf_M_isWide) (ps := jp_M_isWide) (nL := 2) rfl rfl (jaRun_go (jaCall_self jaAr jaMt D) [] 18 _ _ _ _ h)
abbrev jm_M_isLong : jaM := (jf_M_isLong, jp_M_isLong, 2)
theorem js_M_isLong {D : Nat} {kk : Int32 → jaT → Prop} {σ : jaT} {x1 : Int32} (h :
  (jaDe D) jy_M_isWide [.inr (.inr (70, 20, 0)), .inl x1] σ (jaKi fun r2 σ1 =>
    (r2 = 0 → ((nI 0) = 0 ∨ (nI 0) = 1) ∧ kk (nI 0) σ1) ∧
    (¬ r2 = 0 → 
      vp_in (nI 4) 706 ∧ ((((σ1 20).1 72 0 (jaIx (nI 4))) ≤ 0 → ((nI 0) = 0 ∨ (nI 0) = 1) ∧ kk (nI 0) σ1) ∧
      (¬ ((σ1 20).1 72 0 (jaIx (nI 4))) ≤ 0 → ((nI 1) = 0 ∨ (nI 1) = 1) ∧ kk (nI 1) σ1))))) :
  jaDe (D + 1) jy_M_isLong [.inr (.inr (70, 20, 0)), .inl x1] σ (jaKi kk) :=
  jaCall_intro (mt := jaMt) (y := jy_M_isLong) (f := jf_M_isLong) (ps := jp_M_isLong) (nL := 2) rfl rfl (jaRun_go (jaCall_self jaAr jaMt D) [] 15 _ _ _ _ h)
abbrev jm_M_areConflict : jaM := (jf_M_areConflict, jp_M_areConflict, 3)
theorem js_M_areConflict {D : Nat} {kk : Int32 → jaT → Prop} {σ : jaT} {x1 : Int32} {x2 : Int32} (h :
  (jaDe D) jy_M_writesOf [.inr (.inr (70, 20, 0)), .inl x1] σ (jaKi fun r2 σ1 =>
    (jaDe D) jy_M_readsOf [.inr (.inr (70, 20, 0)), .inl x2] σ1 (jaKi fun r4 σ3 =>
      (jaDe D) jy_M_writesOf [.inr (.inr (70, 20, 0)), .inl x2] σ3 (jaKi fun r6 σ5 =>
        (jaDe D) jy_M_readsOf [.inr (.inr (70, 20, 0)), .inl x1] σ5 (jaKi fun r8 σ7 =>
          (jaDe D) jy_M_writesOf [.inr (.inr (70, 20, 0)), .inl x2] σ7 (jaKi fun r10 σ9 =>
            (((r2 &&& (r4 ||| r6)) ||| (r8 &&& r10)) = 0 → ((nI 0) = 0 ∨ (nI 0) = 1) ∧ kk (nI 0) σ9) ∧
            (¬ ((r2 &&& (r4 ||| r6)) ||| (r8 &&& r10)) = 0 → ((nI 1) = 0 ∨ (nI 1) = 1) ∧ kk (nI 1) σ9))))))) :
  jaDe (D + 1) jy_M_areConflict [.inr (.inr (70, 20, 0)), .inl x1, .inl x2] σ (jaKi kk) :=
  jaCall_intro (mt := jaMt) (y := jy_M_areConflict) (f := jf_M_areConflict) (ps := jp_M_areConflict) (nL := 3) rfl rfl (jaRun_go (jaCall_self jaAr jaMt D) [] 26 _ _ _ _ h)
abbrev jm_M_howIn : jaM := (jf_M_howIn, jp_M_howIn, 3)
theorem js_M_howIn {D : Nat} {kk : Int32 → jaT → Prop} {σ : jaT} {x1 : Int32} {x2 : Int32} (h :
  vp_in (((nI 175) + ((nI 40) * x1)) + x2) 706 ∧ kk ((σ 20).1 72 0 (jaIx (((nI 175) + ((nI 40) * x1)) + x2))) σ) :
  jaDe (D + 1) jy_M_howIn [.inr (.inr (70, 20, 0)), .inl x1, .inl x2] σ (jaKi kk) :=
  jaCall_intro (mt := jaMt) (y := jy_M_howIn) (f := jf_M_howIn) (ps := jp_M_howIn) (nL := 3) rfl rfl (jaRun_go (jaCall_self jaAr jaMt D) [] 14 _ _ _ _ h)
abbrev jm_M_isOver : jaM := (jf_M_isOver, jp_M_isOver, 3)
theorem js_M_isOver {D : Nat} {kk : Int32 → jaT → Prop} {σ : jaT} {x1 : Int32} {x2 : Int32} (h :
  (jaDe D) jy_M_howIn [.inr (.inr (70, 20, 0)), .inl x1, .inl x2] σ (jaKi fun r2 σ1 =>
    (r2 ≤ (nI 1) → ((nI 0) = 0 ∨ (nI 0) = 1) ∧ kk (nI 0) σ1) ∧
    (¬ r2 ≤ (nI 1) → ((nI 1) = 0 ∨ (nI 1) = 1) ∧ kk (nI 1) σ1))) :
  jaDe (D + 1) jy_M_isOver [.inr (.inr (70, 20, 0)), .inl x1, .inl x2] σ (jaKi kk) :=
  jaCall_intro (mt := jaMt) (y := jy_M_isOver) (f := jf_M_isOver) (ps := jp_M_isOver) (nL := 3) rfl rfl (jaRun_go (jaCall_self jaAr jaMt D) [] 12 _ _ _ _ h)
abbrev jm_M_aheadOf : jaM := (jf_M_aheadOf, jp_M_aheadOf, 5)
def jc_M_aheadOf_1 (D : Nat) (kk : Int32 → jaT → Prop) (x1 : Int32) (x2 : Int32) (x3 : Int32) (x4 : Int32) (σ : jaT) : Prop := jaC (jaDe D) jm_M_aheadOf (jaKi kk) 1 [some (.inr (.inr (70, 20, 0))), some (.inl x1), some (.inl x2), some (.inl x3), some (.inl x4)] [] σ
theorem js_M_aheadOf {D : Nat} {kk : Int32 → jaT → Prop} {σ : jaT} {x1 : Int32} {x2 : Int32} (h :
  jc_M_aheadOf_1 D kk x1 x2 (nI 0) (nI 0) σ) :
  jaDe (D + 1) jy_M_aheadOf [.inr (.inr (70, 20, 0)), .inl x1, .inl x2] σ (jaKi kk) :=
  jaCall_intro (mt := jaMt) (y := jy_M_aheadOf) (f := jf_M_aheadOf) (ps := jp_M_aheadOf) (nL := 5) rfl rfl (jaRun_go (jaCall_self jaAr jaMt D) [1] 8 _ _ _ _ h)
theorem jb_M_aheadOf_1 {D : Nat} {kk : Int32 → jaT → Prop} {σ : jaT} {x1 : Int32} {x2 : Int32} {x3 : Int32} {x4 : Int32} (h :
  (x2 ≤ x4 → kk x3 σ) ∧
  (¬ x2 ≤ x4 → 
    (jaDe D) jy_M_isOver [.inr (.inr (70, 20, 0)), .inl x1, .inl x4] σ (jaKi fun r2 σ1 =>
      (¬ r2 = 0 → jc_M_aheadOf_1 D kk x1 x2 (x3 + (nI 0)) (x4 + (nI 1)) σ1) ∧
      (r2 = 0 → 
        (jaDe D) jy_M_areConflict [.inr (.inr (70, 20, 0)), .inl x2, .inl x4] σ1 (jaKi fun r4 σ3 =>
          (r4 = 0 → jc_M_aheadOf_1 D kk x1 x2 (x3 + (nI 0)) (x4 + (nI 1)) σ3) ∧
          (¬ r4 = 0 → jc_M_aheadOf_1 D kk x1 x2 (x3 + (nI 1)) (x4 + (nI 1)) σ3)))))) :
  jc_M_aheadOf_1 D kk x1 x2 x3 x4 σ :=
  jaRun_go (jaCall_self jaAr jaMt D) [1] 23 _ _ _ _ h
abbrev jm_M_isReady : jaM := (jf_M_isReady, jp_M_isReady, 3)
theorem js_M_isReady {D : Nat} {kk : Int32 → jaT → Prop} {σ : jaT} {x1 : Int32} {x2 : Int32} (h :
  (jaDe D) jy_M_howIn [.inr (.inr (70, 20, 0)), .inl x1, .inl x2] σ (jaKi fun r2 σ1 =>
    (¬ r2 = 0 → ((nI 0) = 0 ∨ (nI 0) = 1) ∧ kk (nI 0) σ1) ∧
    (r2 = 0 → 
      (jaDe D) jy_M_aheadOf [.inr (.inr (70, 20, 0)), .inl x1, .inl x2] σ1 (jaKi fun r4 σ3 =>
        (¬ r4 = 0 → ((nI 0) = 0 ∨ (nI 0) = 1) ∧ kk (nI 0) σ3) ∧
        (r4 = 0 → ((nI 1) = 0 ∨ (nI 1) = 1) ∧ kk (nI 1) σ3))))) :
  jaDe (D + 1) jy_M_isReady [.inr (.inr (70, 20, 0)), .inl x1, .inl x2] σ (jaKi kk) :=
  jaCall_intro (mt := jaMt) (y := jy_M_isReady) (f := jf_M_isReady) (ps := jp_M_isReady) (nL := 3) rfl rfl (jaRun_go (jaCall_self jaAr jaMt D) [] 16 _ _ _ _ h)
abbrev jm_M_valueBy : jaM := (jf_M_valueBy, jp_M_valueBy, 4)
theorem js_M_valueBy_72 {D : Nat} {kk : Int32 → jaT → Prop} {σ : jaT} {x2 : Int32} {x3 : Int32} (h :
  (jaDe D) jy_M_bitOf [.inl ((σ 20).1 70 0 29), .inl x3] σ (jaKi fun r2 σ1 =>
    (r2 = 0 → 
      vp_in (x2 + x3) 706 ∧ kk ((σ1 20).1 72 0 (jaIx (x2 + x3))) σ1) ∧
    (¬ r2 = 0 → vp_in x3 10 ∧ kk ((σ1 20).1 80 0 (jaIx x3)) σ1))) :
  jaDe (D + 1) jy_M_valueBy [.inr (.inr (70, 20, 0)), .inr (.inr (72, 20, 0)), .inl x2, .inl x3] σ (jaKi kk) :=
  jaCall_intro (mt := jaMt) (y := jy_M_valueBy) (f := jf_M_valueBy) (ps := jp_M_valueBy) (nL := 4) rfl rfl (jaRun_go (jaCall_self jaAr jaMt D) [] 15 _ _ _ _ h)
theorem js_M_valueBy_81 {D : Nat} {kk : Int32 → jaT → Prop} {σ : jaT} {x2 : Int32} {x3 : Int32} (h :
  (jaDe D) jy_M_bitOf [.inl ((σ 20).1 70 0 29), .inl x3] σ (jaKi fun r2 σ1 =>
    (r2 = 0 → 
      vp_in (x2 + x3) 10 ∧ kk ((σ1 20).1 81 0 (jaIx (x2 + x3))) σ1) ∧
    (¬ r2 = 0 → vp_in x3 10 ∧ kk ((σ1 20).1 80 0 (jaIx x3)) σ1))) :
  jaDe (D + 1) jy_M_valueBy [.inr (.inr (70, 20, 0)), .inr (.inr (81, 20, 0)), .inl x2, .inl x3] σ (jaKi kk) :=
  jaCall_intro (mt := jaMt) (y := jy_M_valueBy) (f := jf_M_valueBy) (ps := jp_M_valueBy) (nL := 4) rfl rfl (jaRun_go (jaCall_self jaAr jaMt D) [] 15 _ _ _ _ h)
abbrev jm_M_termBy : jaM := (jf_M_termBy, jp_M_termBy, 6)
set_option maxRecDepth 20000 in
theorem js_M_termBy_72 {D : Nat} {kk : Int32 → jaT → Prop} {σ : jaT} {x2 : Int32} {x3 : Int32} {x4 : Int32} (h :
  vp_in x4 3192 ∧ ((¬ ((σ 20).1 75 0 (jaIx x4)) = 0 → 
    vp_in (x4 + (nI 1)) 3192 ∧ (vp_in (x4 + (nI 2)) 3192 ∧ ((jaDe D) jy_M_keyBy [.inr (.inr (70, 20, 0)), .inl x3, .inl ((σ 20).1 75 0 (jaIx (x4 + (nI 1)))), .inl ((σ 20).1 75 0 (jaIx (x4 + (nI 2))))] σ (jaKi fun r2 σ1 =>
      (jaDe D) jy_M_valueBy [.inr (.inr (70, 20, 0)), .inr (.inr (72, 20, 0)), .inl x2, .inl r2] σ1 (jaKi fun r4 σ3 =>
        vp_in (x4 + (nI 3)) 3192 ∧ ((¬ ((σ3 20).1 75 0 (jaIx (x4 + (nI 3)))) = (nI 1) → kk r4 σ3) ∧
        (((σ3 20).1 75 0 (jaIx (x4 + (nI 3)))) = (nI 1) → kk (-r4) σ3))))))) ∧
  (((σ 20).1 75 0 (jaIx x4)) = 0 → 
    vp_in (x4 + (nI 1)) 3192 ∧ (vp_in (x4 + (nI 3)) 3192 ∧ ((¬ ((σ 20).1 75 0 (jaIx (x4 + (nI 3)))) = (nI 1) → kk ((σ 20).1 75 0 (jaIx (x4 + (nI 1)))) σ) ∧
    (((σ 20).1 75 0 (jaIx (x4 + (nI 3)))) = (nI 1) → kk (-((σ 20).1 75 0 (jaIx (x4 + (nI 1))))) σ)))))) :
  jaDe (D + 1) jy_M_termBy [.inr (.inr (70, 20, 0)), .inr (.inr (72, 20, 0)), .inl x2, .inl x3, .inl x4] σ (jaKi kk) :=
  jaCall_intro (mt := jaMt) (y := jy_M_termBy) (f := jf_M_termBy) (ps := jp_M_termBy) (nL := 6) rfl rfl (jaRun_go (jaCall_self jaAr jaMt D) [] 41 _ _ _ _ h)
set_option maxRecDepth 20000 in
theorem js_M_termBy_81 {D : Nat} {kk : Int32 → jaT → Prop} {σ : jaT} {x2 : Int32} {x3 : Int32} {x4 : Int32} (h :
  vp_in x4 3192 ∧ ((¬ ((σ 20).1 75 0 (jaIx x4)) = 0 → 
    vp_in (x4 + (nI 1)) 3192 ∧ (vp_in (x4 + (nI 2)) 3192 ∧ ((jaDe D) jy_M_keyBy [.inr (.inr (70, 20, 0)), .inl x3, .inl ((σ 20).1 75 0 (jaIx (x4 + (nI 1)))), .inl ((σ 20).1 75 0 (jaIx (x4 + (nI 2))))] σ (jaKi fun r2 σ1 =>
      (jaDe D) jy_M_valueBy [.inr (.inr (70, 20, 0)), .inr (.inr (81, 20, 0)), .inl x2, .inl r2] σ1 (jaKi fun r4 σ3 =>
        vp_in (x4 + (nI 3)) 3192 ∧ ((¬ ((σ3 20).1 75 0 (jaIx (x4 + (nI 3)))) = (nI 1) → kk r4 σ3) ∧
        (((σ3 20).1 75 0 (jaIx (x4 + (nI 3)))) = (nI 1) → kk (-r4) σ3))))))) ∧
  (((σ 20).1 75 0 (jaIx x4)) = 0 → 
    vp_in (x4 + (nI 1)) 3192 ∧ (vp_in (x4 + (nI 3)) 3192 ∧ ((¬ ((σ 20).1 75 0 (jaIx (x4 + (nI 3)))) = (nI 1) → kk ((σ 20).1 75 0 (jaIx (x4 + (nI 1)))) σ) ∧
    (((σ 20).1 75 0 (jaIx (x4 + (nI 3)))) = (nI 1) → kk (-((σ 20).1 75 0 (jaIx (x4 + (nI 1))))) σ)))))) :
  jaDe (D + 1) jy_M_termBy [.inr (.inr (70, 20, 0)), .inr (.inr (81, 20, 0)), .inl x2, .inl x3, .inl x4] σ (jaKi kk) :=
  jaCall_intro (mt := jaMt) (y := jy_M_termBy) (f := jf_M_termBy) (ps := jp_M_termBy) (nL := 6) rfl rfl (jaRun_go (jaCall_self jaAr jaMt D) [] 41 _ _ _ _ h)
abbrev jm_M_goesBy : jaM := (jf_M_goesBy, jp_M_goesBy, 10)
def jc_M_goesBy_72_1 (D : Nat) (kk : Int32 → jaT → Prop) (x2 : Int32) (x3 : Int32) (x4 : Int32) (x5 : Int32) (u6 : Option jaV) (σ : jaT) : Prop := jaC (jaDe D) jm_M_goesBy (jaKi kk) 1 [some (.inr (.inr (70, 20, 0))), some (.inr (.inr (72, 20, 0))), some (.inl x2), some (.inl x3), some (.inl x4), some (.inl x5), u6, none, none, none] [] σ
def jc_M_goesBy_72_6 (D : Nat) (kk : Int32 → jaT → Prop) (x2 : Int32) (x3 : Int32) (x4 : Int32) (x5 : Int32) (u6 : Option jaV) (u7 : Option jaV) (u8 : Option jaV) (u9 : Option jaV) (σ : jaT) : Prop := jaC (jaDe D) jm_M_goesBy (jaKi kk) 6 [some (.inr (.inr (70, 20, 0))), some (.inr (.inr (72, 20, 0))), some (.inl x2), some (.inl x3), some (.inl x4), some (.inl x5), u6, u7, u8, u9] [] σ
def jc_M_goesBy_72_7 (D : Nat) (kk : Int32 → jaT → Prop) (x2 : Int32) (x3 : Int32) (x4 : Int32) (x5 : Int32) (x6 : Int32) (x7 : Int32) (x8 : Int32) (x9 : Int32) (σ : jaT) : Prop := jaC (jaDe D) jm_M_goesBy (jaKi kk) 7 [some (.inr (.inr (70, 20, 0))), some (.inr (.inr (72, 20, 0))), some (.inl x2), some (.inl x3), some (.inl x4), some (.inl x5), some (.inl x6), some (.inl x7), some (.inl x8), some (.inl x9)] [] σ
theorem js_M_goesBy_72 {D : Nat} {kk : Int32 → jaT → Prop} {σ : jaT} {x2 : Int32} {x3 : Int32} (h :
  vp_in ((nI 9) * x3) 576 ∧ (let σ1 : jaT := jaU σ 20 (jaUI (σ 20) 70 0 29 (nI 0))
  jc_M_goesBy_72_1 D kk x2 x3 ((nI 133) * ((σ 20).1 76 0 (jaIx ((nI 9) * x3)))) (nI 0) none σ1)) :
  jaDe (D + 1) jy_M_goesBy [.inr (.inr (70, 20, 0)), .inr (.inr (72, 20, 0)), .inl x2, .inl x3] σ (jaKi kk) :=
  jaCall_intro (mt := jaMt) (y := jy_M_goesBy) (f := jf_M_goesBy) (ps := jp_M_goesBy) (nL := 10) rfl rfl (jaRun_go (jaCall_self jaAr jaMt D) [1, 6, 7] 18 _ _ _ _ h)
set_option maxRecDepth 20000 in
theorem jb_M_goesBy_72_1 {D : Nat} {kk : Int32 → jaT → Prop} {σ : jaT} {x2 : Int32} {x3 : Int32} {x4 : Int32} {x5 : Int32} {u6 : Option jaV} (h :
  vp_in (x4 + (nI 2)) 3192 ∧ ((((σ 20).1 75 0 (jaIx (x4 + (nI 2)))) ≤ x5 → jc_M_goesBy_72_6 D kk x2 x3 x4 (nI 0) u6 none none none σ) ∧
  (¬ ((σ 20).1 75 0 (jaIx (x4 + (nI 2)))) ≤ x5 → 
    vp_in ((x4 + (nI 3)) + x5) 3192 ∧ (vp_in (x2 + ((σ 20).1 75 0 (jaIx ((x4 + (nI 3)) + x5)))) 706 ∧ (vp_in (nI 1) 706 ∧ (¬ ((σ 20).1 72 0 (jaIx (nI 1))) = 0 ∧ ((0 ≤ (((σ 20).1 72 0 (jaIx (x2 + ((σ 20).1 75 0 (jaIx ((x4 + (nI 3)) + x5)))))) - ((σ 20).1 72 0 (jaIx (x2 + ((σ 20).1 75 0 (jaIx ((x4 + (nI 3)) + x5)))))) / ((σ 20).1 72 0 (jaIx (nI 1))) * ((σ 20).1 72 0 (jaIx (nI 1)))) → 
      vp_in ((((nI 9) * x3) + (nI 5)) + x5) 576 ∧ (((((σ 20).1 72 0 (jaIx (x2 + ((σ 20).1 75 0 (jaIx ((x4 + (nI 3)) + x5)))))) - ((σ 20).1 72 0 (jaIx (x2 + ((σ 20).1 75 0 (jaIx ((x4 + (nI 3)) + x5)))))) / ((σ 20).1 72 0 (jaIx (nI 1))) * ((σ 20).1 72 0 (jaIx (nI 1)))) = ((σ 20).1 76 0 (jaIx ((((nI 9) * x3) + (nI 5)) + x5))) → 
        jc_M_goesBy_72_1 D kk x2 x3 x4 (x5 + (nI 1)) (some (.inl (((σ 20).1 72 0 (jaIx (x2 + ((σ 20).1 75 0 (jaIx ((x4 + (nI 3)) + x5)))))) - ((σ 20).1 72 0 (jaIx (x2 + ((σ 20).1 75 0 (jaIx ((x4 + (nI 3)) + x5)))))) / ((σ 20).1 72 0 (jaIx (nI 1))) * ((σ 20).1 72 0 (jaIx (nI 1)))))) σ) ∧
      (¬ (((σ 20).1 72 0 (jaIx (x2 + ((σ 20).1 75 0 (jaIx ((x4 + (nI 3)) + x5)))))) - ((σ 20).1 72 0 (jaIx (x2 + ((σ 20).1 75 0 (jaIx ((x4 + (nI 3)) + x5)))))) / ((σ 20).1 72 0 (jaIx (nI 1))) * ((σ 20).1 72 0 (jaIx (nI 1)))) = ((σ 20).1 76 0 (jaIx ((((nI 9) * x3) + (nI 5)) + x5))) → kk (nI 3) σ))) ∧
    (¬ 0 ≤ (((σ 20).1 72 0 (jaIx (x2 + ((σ 20).1 75 0 (jaIx ((x4 + (nI 3)) + x5)))))) - ((σ 20).1 72 0 (jaIx (x2 + ((σ 20).1 75 0 (jaIx ((x4 + (nI 3)) + x5)))))) / ((σ 20).1 72 0 (jaIx (nI 1))) * ((σ 20).1 72 0 (jaIx (nI 1)))) → 
      vp_in (nI 1) 706 ∧ (vp_in ((((nI 9) * x3) + (nI 5)) + x5) 576 ∧ ((((((σ 20).1 72 0 (jaIx (x2 + ((σ 20).1 75 0 (jaIx ((x4 + (nI 3)) + x5)))))) - ((σ 20).1 72 0 (jaIx (x2 + ((σ 20).1 75 0 (jaIx ((x4 + (nI 3)) + x5)))))) / ((σ 20).1 72 0 (jaIx (nI 1))) * ((σ 20).1 72 0 (jaIx (nI 1)))) + ((σ 20).1 72 0 (jaIx (nI 1)))) = ((σ 20).1 76 0 (jaIx ((((nI 9) * x3) + (nI 5)) + x5))) → 
        jc_M_goesBy_72_1 D kk x2 x3 x4 (x5 + (nI 1)) (some (.inl (((σ 20).1 72 0 (jaIx (x2 + ((σ 20).1 75 0 (jaIx ((x4 + (nI 3)) + x5)))))) - ((σ 20).1 72 0 (jaIx (x2 + ((σ 20).1 75 0 (jaIx ((x4 + (nI 3)) + x5)))))) / ((σ 20).1 72 0 (jaIx (nI 1))) * ((σ 20).1 72 0 (jaIx (nI 1)))))) σ) ∧
      (¬ ((((σ 20).1 72 0 (jaIx (x2 + ((σ 20).1 75 0 (jaIx ((x4 + (nI 3)) + x5)))))) - ((σ 20).1 72 0 (jaIx (x2 + ((σ 20).1 75 0 (jaIx ((x4 + (nI 3)) + x5)))))) / ((σ 20).1 72 0 (jaIx (nI 1))) * ((σ 20).1 72 0 (jaIx (nI 1)))) + ((σ 20).1 72 0 (jaIx (nI 1)))) = ((σ 20).1 76 0 (jaIx ((((nI 9) * x3) + (nI 5)) + x5))) → kk (nI 3) σ))))))))))) :
  jc_M_goesBy_72_1 D kk x2 x3 x4 x5 u6 σ :=
  jaRun_go (jaCall_self jaAr jaMt D) [1, 6, 7] 51 _ _ _ _ h
set_option maxRecDepth 20000 in
theorem jb_M_goesBy_72_6 {D : Nat} {kk : Int32 → jaT → Prop} {σ : jaT} {x2 : Int32} {x3 : Int32} {x4 : Int32} {x5 : Int32} {u6 : Option jaV} {u7 : Option jaV} {u8 : Option jaV} {u9 : Option jaV} (h :
  vp_in (x4 + (nI 1)) 3192 ∧ ((((σ 20).1 75 0 (jaIx (x4 + (nI 1)))) ≤ x5 → kk (nI 2) σ) ∧
  (¬ ((σ 20).1 75 0 (jaIx (x4 + (nI 1)))) ≤ x5 → 
    vp_in (((x4 + (nI 7)) + ((nI 21) * x5)) + (nI 1)) 3192 ∧ (vp_in (((x4 + (nI 7)) + ((nI 21) * x5)) + (nI 2)) 3192 ∧ (jaDe D) jy_M_keyBy [.inr (.inr (70, 20, 0)), .inl x3, .inl ((σ 20).1 75 0 (jaIx (((x4 + (nI 7)) + ((nI 21) * x5)) + (nI 1)))), .inl ((σ 20).1 75 0 (jaIx (((x4 + (nI 7)) + ((nI 21) * x5)) + (nI 2))))] σ (jaKi fun r2 σ1 =>
      jc_M_goesBy_72_7 D kk x2 x3 x4 x5 ((x4 + (nI 7)) + ((nI 21) * x5)) r2 (nI 0) (nI 0) σ1))))) :
  jc_M_goesBy_72_6 D kk x2 x3 x4 x5 u6 u7 u8 u9 σ :=
  jaRun_go (jaCall_self jaAr jaMt D) [1, 6, 7] 40 _ _ _ _ h
set_option maxRecDepth 20000 in
theorem jb_M_goesBy_72_7 {D : Nat} {kk : Int32 → jaT → Prop} {σ : jaT} {x2 : Int32} {x3 : Int32} {x4 : Int32} {x5 : Int32} {x6 : Int32} {x7 : Int32} {x8 : Int32} {x9 : Int32} (h :
  vp_in (x6 + (nI 4)) 3192 ∧ ((((σ 20).1 75 0 (jaIx (x6 + (nI 4)))) ≤ x9 → 
    vp_in x6 3192 ∧ ((¬ ((σ 20).1 75 0 (jaIx x6)) = (nI 1) → 
      vp_in x7 10 ∧ 
      (let σ1 : jaT := jaU σ 20 (jaUI (σ 20) 80 0 (jaIx x7) x8)
      let σ2 : jaT := jaU σ1 20 (jaUI (σ1 20) 70 0 29 (((σ1 20).1 70 0 29) ||| ((nI 1) <<< (x7 &&& 31))))
      jc_M_goesBy_72_6 D kk x2 x3 x4 (x5 + (nI 1)) (some (.inl x6)) (some (.inl x7)) (some (.inl x8)) (some (.inl x9)) σ2)) ∧
    (((σ 20).1 75 0 (jaIx x6)) = (nI 1) → 
      (jaDe D) jy_M_valueBy [.inr (.inr (70, 20, 0)), .inr (.inr (72, 20, 0)), .inl x2, .inl x7] σ (jaKi fun r4 σ3 =>
        vp_in (x6 + (nI 3)) 3192 ∧ ((¬ ((σ3 20).1 75 0 (jaIx (x6 + (nI 3)))) = (nI 60) → 
          vp_in (x6 + (nI 3)) 3192 ∧ ((¬ ((σ3 20).1 75 0 (jaIx (x6 + (nI 3)))) = (nI 61) → 
            (x8 < r4 → 
              jc_M_goesBy_72_6 D kk x2 x3 x4 (x5 + (nI 1)) (some (.inl x6)) (some (.inl x7)) (some (.inl x8)) (some (.inl r4)) σ3) ∧
            (¬ x8 < r4 → kk (nI 4) σ3)) ∧
          (((σ3 20).1 75 0 (jaIx (x6 + (nI 3)))) = (nI 61) → 
            (¬ r4 = x8 → kk (nI 4) σ3) ∧
            (r4 = x8 → 
              jc_M_goesBy_72_6 D kk x2 x3 x4 (x5 + (nI 1)) (some (.inl x6)) (some (.inl x7)) (some (.inl x8)) (some (.inl r4)) σ3)))) ∧
        (((σ3 20).1 75 0 (jaIx (x6 + (nI 3)))) = (nI 60) → 
          (x8 ≤ r4 → kk (nI 4) σ3) ∧
          (¬ x8 ≤ r4 → 
            jc_M_goesBy_72_6 D kk x2 x3 x4 (x5 + (nI 1)) (some (.inl x6)) (some (.inl x7)) (some (.inl x8)) (some (.inl r4)) σ3))))))) ∧
  (¬ ((σ 20).1 75 0 (jaIx (x6 + (nI 4)))) ≤ x9 → 
    (jaDe D) jy_M_termBy [.inr (.inr (70, 20, 0)), .inr (.inr (72, 20, 0)), .inl x2, .inl x3, .inl ((x6 + (nI 5)) + ((nI 4) * x9))] σ (jaKi fun r6 σ5 =>
      jc_M_goesBy_72_7 D kk x2 x3 x4 x5 x6 x7 (x8 + r6) (x9 + (nI 1)) σ5)))) :
  jc_M_goesBy_72_7 D kk x2 x3 x4 x5 x6 x7 x8 x9 σ :=
  jaRun_go (jaCall_self jaAr jaMt D) [1, 6, 7] 46 _ _ _ _ h
def jc_M_goesBy_81_1 (D : Nat) (kk : Int32 → jaT → Prop) (x2 : Int32) (x3 : Int32) (x4 : Int32) (x5 : Int32) (u6 : Option jaV) (σ : jaT) : Prop := jaC (jaDe D) jm_M_goesBy (jaKi kk) 1 [some (.inr (.inr (70, 20, 0))), some (.inr (.inr (81, 20, 0))), some (.inl x2), some (.inl x3), some (.inl x4), some (.inl x5), u6, none, none, none] [] σ
def jc_M_goesBy_81_6 (D : Nat) (kk : Int32 → jaT → Prop) (x2 : Int32) (x3 : Int32) (x4 : Int32) (x5 : Int32) (u6 : Option jaV) (u7 : Option jaV) (u8 : Option jaV) (u9 : Option jaV) (σ : jaT) : Prop := jaC (jaDe D) jm_M_goesBy (jaKi kk) 6 [some (.inr (.inr (70, 20, 0))), some (.inr (.inr (81, 20, 0))), some (.inl x2), some (.inl x3), some (.inl x4), some (.inl x5), u6, u7, u8, u9] [] σ
def jc_M_goesBy_81_7 (D : Nat) (kk : Int32 → jaT → Prop) (x2 : Int32) (x3 : Int32) (x4 : Int32) (x5 : Int32) (x6 : Int32) (x7 : Int32) (x8 : Int32) (x9 : Int32) (σ : jaT) : Prop := jaC (jaDe D) jm_M_goesBy (jaKi kk) 7 [some (.inr (.inr (70, 20, 0))), some (.inr (.inr (81, 20, 0))), some (.inl x2), some (.inl x3), some (.inl x4), some (.inl x5), some (.inl x6), some (.inl x7), some (.inl x8), some (.inl x9)] [] σ
theorem js_M_goesBy_81 {D : Nat} {kk : Int32 → jaT → Prop} {σ : jaT} {x2 : Int32} {x3 : Int32} (h :
  vp_in ((nI 9) * x3) 576 ∧ (let σ1 : jaT := jaU σ 20 (jaUI (σ 20) 70 0 29 (nI 0))
  jc_M_goesBy_81_1 D kk x2 x3 ((nI 133) * ((σ 20).1 76 0 (jaIx ((nI 9) * x3)))) (nI 0) none σ1)) :
  jaDe (D + 1) jy_M_goesBy [.inr (.inr (70, 20, 0)), .inr (.inr (81, 20, 0)), .inl x2, .inl x3] σ (jaKi kk) :=
  jaCall_intro (mt := jaMt) (y := jy_M_goesBy) (f := jf_M_goesBy) (ps := jp_M_goesBy) (nL := 10) rfl rfl (jaRun_go (jaCall_self jaAr jaMt D) [1, 6, 7] 18 _ _ _ _ h)
set_option maxRecDepth 20000 in
theorem jb_M_goesBy_81_1 {D : Nat} {kk : Int32 → jaT → Prop} {σ : jaT} {x2 : Int32} {x3 : Int32} {x4 : Int32} {x5 : Int32} {u6 : Option jaV} (h :
  vp_in (x4 + (nI 2)) 3192 ∧ ((((σ 20).1 75 0 (jaIx (x4 + (nI 2)))) ≤ x5 → jc_M_goesBy_81_6 D kk x2 x3 x4 (nI 0) u6 none none none σ) ∧
  (¬ ((σ 20).1 75 0 (jaIx (x4 + (nI 2)))) ≤ x5 → 
    vp_in ((x4 + (nI 3)) + x5) 3192 ∧ (vp_in (x2 + ((σ 20).1 75 0 (jaIx ((x4 + (nI 3)) + x5)))) 10 ∧ (vp_in (nI 1) 706 ∧ (¬ ((σ 20).1 72 0 (jaIx (nI 1))) = 0 ∧ ((0 ≤ (((σ 20).1 81 0 (jaIx (x2 + ((σ 20).1 75 0 (jaIx ((x4 + (nI 3)) + x5)))))) - ((σ 20).1 81 0 (jaIx (x2 + ((σ 20).1 75 0 (jaIx ((x4 + (nI 3)) + x5)))))) / ((σ 20).1 72 0 (jaIx (nI 1))) * ((σ 20).1 72 0 (jaIx (nI 1)))) → 
      vp_in ((((nI 9) * x3) + (nI 5)) + x5) 576 ∧ (((((σ 20).1 81 0 (jaIx (x2 + ((σ 20).1 75 0 (jaIx ((x4 + (nI 3)) + x5)))))) - ((σ 20).1 81 0 (jaIx (x2 + ((σ 20).1 75 0 (jaIx ((x4 + (nI 3)) + x5)))))) / ((σ 20).1 72 0 (jaIx (nI 1))) * ((σ 20).1 72 0 (jaIx (nI 1)))) = ((σ 20).1 76 0 (jaIx ((((nI 9) * x3) + (nI 5)) + x5))) → 
        jc_M_goesBy_81_1 D kk x2 x3 x4 (x5 + (nI 1)) (some (.inl (((σ 20).1 81 0 (jaIx (x2 + ((σ 20).1 75 0 (jaIx ((x4 + (nI 3)) + x5)))))) - ((σ 20).1 81 0 (jaIx (x2 + ((σ 20).1 75 0 (jaIx ((x4 + (nI 3)) + x5)))))) / ((σ 20).1 72 0 (jaIx (nI 1))) * ((σ 20).1 72 0 (jaIx (nI 1)))))) σ) ∧
      (¬ (((σ 20).1 81 0 (jaIx (x2 + ((σ 20).1 75 0 (jaIx ((x4 + (nI 3)) + x5)))))) - ((σ 20).1 81 0 (jaIx (x2 + ((σ 20).1 75 0 (jaIx ((x4 + (nI 3)) + x5)))))) / ((σ 20).1 72 0 (jaIx (nI 1))) * ((σ 20).1 72 0 (jaIx (nI 1)))) = ((σ 20).1 76 0 (jaIx ((((nI 9) * x3) + (nI 5)) + x5))) → kk (nI 3) σ))) ∧
    (¬ 0 ≤ (((σ 20).1 81 0 (jaIx (x2 + ((σ 20).1 75 0 (jaIx ((x4 + (nI 3)) + x5)))))) - ((σ 20).1 81 0 (jaIx (x2 + ((σ 20).1 75 0 (jaIx ((x4 + (nI 3)) + x5)))))) / ((σ 20).1 72 0 (jaIx (nI 1))) * ((σ 20).1 72 0 (jaIx (nI 1)))) → 
      vp_in (nI 1) 706 ∧ (vp_in ((((nI 9) * x3) + (nI 5)) + x5) 576 ∧ ((((((σ 20).1 81 0 (jaIx (x2 + ((σ 20).1 75 0 (jaIx ((x4 + (nI 3)) + x5)))))) - ((σ 20).1 81 0 (jaIx (x2 + ((σ 20).1 75 0 (jaIx ((x4 + (nI 3)) + x5)))))) / ((σ 20).1 72 0 (jaIx (nI 1))) * ((σ 20).1 72 0 (jaIx (nI 1)))) + ((σ 20).1 72 0 (jaIx (nI 1)))) = ((σ 20).1 76 0 (jaIx ((((nI 9) * x3) + (nI 5)) + x5))) → 
        jc_M_goesBy_81_1 D kk x2 x3 x4 (x5 + (nI 1)) (some (.inl (((σ 20).1 81 0 (jaIx (x2 + ((σ 20).1 75 0 (jaIx ((x4 + (nI 3)) + x5)))))) - ((σ 20).1 81 0 (jaIx (x2 + ((σ 20).1 75 0 (jaIx ((x4 + (nI 3)) + x5)))))) / ((σ 20).1 72 0 (jaIx (nI 1))) * ((σ 20).1 72 0 (jaIx (nI 1)))))) σ) ∧
      (¬ ((((σ 20).1 81 0 (jaIx (x2 + ((σ 20).1 75 0 (jaIx ((x4 + (nI 3)) + x5)))))) - ((σ 20).1 81 0 (jaIx (x2 + ((σ 20).1 75 0 (jaIx ((x4 + (nI 3)) + x5)))))) / ((σ 20).1 72 0 (jaIx (nI 1))) * ((σ 20).1 72 0 (jaIx (nI 1)))) + ((σ 20).1 72 0 (jaIx (nI 1)))) = ((σ 20).1 76 0 (jaIx ((((nI 9) * x3) + (nI 5)) + x5))) → kk (nI 3) σ))))))))))) :
  jc_M_goesBy_81_1 D kk x2 x3 x4 x5 u6 σ :=
  jaRun_go (jaCall_self jaAr jaMt D) [1, 6, 7] 51 _ _ _ _ h
set_option maxRecDepth 20000 in
theorem jb_M_goesBy_81_6 {D : Nat} {kk : Int32 → jaT → Prop} {σ : jaT} {x2 : Int32} {x3 : Int32} {x4 : Int32} {x5 : Int32} {u6 : Option jaV} {u7 : Option jaV} {u8 : Option jaV} {u9 : Option jaV} (h :
  vp_in (x4 + (nI 1)) 3192 ∧ ((((σ 20).1 75 0 (jaIx (x4 + (nI 1)))) ≤ x5 → kk (nI 2) σ) ∧
  (¬ ((σ 20).1 75 0 (jaIx (x4 + (nI 1)))) ≤ x5 → 
    vp_in (((x4 + (nI 7)) + ((nI 21) * x5)) + (nI 1)) 3192 ∧ (vp_in (((x4 + (nI 7)) + ((nI 21) * x5)) + (nI 2)) 3192 ∧ (jaDe D) jy_M_keyBy [.inr (.inr (70, 20, 0)), .inl x3, .inl ((σ 20).1 75 0 (jaIx (((x4 + (nI 7)) + ((nI 21) * x5)) + (nI 1)))), .inl ((σ 20).1 75 0 (jaIx (((x4 + (nI 7)) + ((nI 21) * x5)) + (nI 2))))] σ (jaKi fun r2 σ1 =>
      jc_M_goesBy_81_7 D kk x2 x3 x4 x5 ((x4 + (nI 7)) + ((nI 21) * x5)) r2 (nI 0) (nI 0) σ1))))) :
  jc_M_goesBy_81_6 D kk x2 x3 x4 x5 u6 u7 u8 u9 σ :=
  jaRun_go (jaCall_self jaAr jaMt D) [1, 6, 7] 40 _ _ _ _ h
set_option maxRecDepth 20000 in
theorem jb_M_goesBy_81_7 {D : Nat} {kk : Int32 → jaT → Prop} {σ : jaT} {x2 : Int32} {x3 : Int32} {x4 : Int32} {x5 : Int32} {x6 : Int32} {x7 : Int32} {x8 : Int32} {x9 : Int32} (h :
  vp_in (x6 + (nI 4)) 3192 ∧ ((((σ 20).1 75 0 (jaIx (x6 + (nI 4)))) ≤ x9 → 
    vp_in x6 3192 ∧ ((¬ ((σ 20).1 75 0 (jaIx x6)) = (nI 1) → 
      vp_in x7 10 ∧ 
      (let σ1 : jaT := jaU σ 20 (jaUI (σ 20) 80 0 (jaIx x7) x8)
      let σ2 : jaT := jaU σ1 20 (jaUI (σ1 20) 70 0 29 (((σ1 20).1 70 0 29) ||| ((nI 1) <<< (x7 &&& 31))))
      jc_M_goesBy_81_6 D kk x2 x3 x4 (x5 + (nI 1)) (some (.inl x6)) (some (.inl x7)) (some (.inl x8)) (some (.inl x9)) σ2)) ∧
    (((σ 20).1 75 0 (jaIx x6)) = (nI 1) → 
      (jaDe D) jy_M_valueBy [.inr (.inr (70, 20, 0)), .inr (.inr (81, 20, 0)), .inl x2, .inl x7] σ (jaKi fun r4 σ3 =>
        vp_in (x6 + (nI 3)) 3192 ∧ ((¬ ((σ3 20).1 75 0 (jaIx (x6 + (nI 3)))) = (nI 60) → 
          vp_in (x6 + (nI 3)) 3192 ∧ ((¬ ((σ3 20).1 75 0 (jaIx (x6 + (nI 3)))) = (nI 61) → 
            (x8 < r4 → 
              jc_M_goesBy_81_6 D kk x2 x3 x4 (x5 + (nI 1)) (some (.inl x6)) (some (.inl x7)) (some (.inl x8)) (some (.inl r4)) σ3) ∧
            (¬ x8 < r4 → kk (nI 4) σ3)) ∧
          (((σ3 20).1 75 0 (jaIx (x6 + (nI 3)))) = (nI 61) → 
            (¬ r4 = x8 → kk (nI 4) σ3) ∧
            (r4 = x8 → 
              jc_M_goesBy_81_6 D kk x2 x3 x4 (x5 + (nI 1)) (some (.inl x6)) (some (.inl x7)) (some (.inl x8)) (some (.inl r4)) σ3)))) ∧
        (((σ3 20).1 75 0 (jaIx (x6 + (nI 3)))) = (nI 60) → 
          (x8 ≤ r4 → kk (nI 4) σ3) ∧
          (¬ x8 ≤ r4 → 
            jc_M_goesBy_81_6 D kk x2 x3 x4 (x5 + (nI 1)) (some (.inl x6)) (some (.inl x7)) (some (.inl x8)) (some (.inl r4)) σ3))))))) ∧
  (¬ ((σ 20).1 75 0 (jaIx (x6 + (nI 4)))) ≤ x9 → 
    (jaDe D) jy_M_termBy [.inr (.inr (70, 20, 0)), .inr (.inr (81, 20, 0)), .inl x2, .inl x3, .inl ((x6 + (nI 5)) + ((nI 4) * x9))] σ (jaKi fun r6 σ5 =>
      jc_M_goesBy_81_7 D kk x2 x3 x4 x5 x6 x7 (x8 + r6) (x9 + (nI 1)) σ5)))) :
  jc_M_goesBy_81_7 D kk x2 x3 x4 x5 x6 x7 x8 x9 σ :=
  jaRun_go (jaCall_self jaAr jaMt D) [1, 6, 7] 46 _ _ _ _ h
abbrev jm_M_executes : jaM := (jf_M_executes, jp_M_executes, 6)
def jc_M_executes_1 (D : Nat) (kk : jaT → Prop) (x1 : Int32) (x2 : Int32) (x3 : Int32) (x4 : Int32) (x5 : Int32) (σ : jaT) : Prop := jaC (jaDe D) jm_M_executes (jaKv kk) 1 [some (.inr (.inr (70, 20, 0))), some (.inl x1), some (.inl x2), some (.inl x3), some (.inl x4), some (.inl x5)] [] σ
set_option maxRecDepth 20000 in
theorem js_M_executes {D : Nat} {kk : jaT → Prop} {σ : jaT} {x1 : Int32} {x2 : Int32} (h :
  (jaDe D) jy_M_idAt [.inr (.inr (70, 20, 0)), .inl x2] σ (jaKi fun r2 σ1 =>
    (jaDe D) jy_M_goesBy [.inr (.inr (70, 20, 0)), .inr (.inr (72, 20, 0)), .inl ((nI 145) + ((nI 10) * x1)), .inl r2] σ1 (jaKi fun r4 σ3 =>
      vp_in (((nI 175) + ((nI 40) * x1)) + x2) 706 ∧ 
      (let σ5 : jaT := jaU σ3 20 (jaUI (σ3 20) 72 0 (jaIx (((nI 175) + ((nI 40) * x1)) + x2)) r4)
      vp_in (((nI 295) + ((nI 40) * x1)) + x2) 706 ∧ 
      (let σ6 : jaT := jaU σ5 20 (jaUI (σ5 20) 72 0 (jaIx (((nI 295) + ((nI 40) * x1)) + x2)) (nI 0))
      jc_M_executes_1 D kk x1 x2 r2 r4 (nI 0) σ6))))) :
  jaDe (D + 1) jy_M_executes [.inr (.inr (70, 20, 0)), .inl x1, .inl x2] σ (jaKv kk) :=
  jaCall_intro (mt := jaMt) (y := jy_M_executes) (f := jf_M_executes) (ps := jp_M_executes) (nL := 6) rfl rfl (jaRun_go (jaCall_self jaAr jaMt D) [1] 43 _ _ _ _ h)
set_option maxRecDepth 20000 in
theorem jb_M_executes_1 {D : Nat} {kk : jaT → Prop} {σ : jaT} {x1 : Int32} {x2 : Int32} {x3 : Int32} {x4 : Int32} {x5 : Int32} (h :
  vp_in (nI 1) 706 ∧ ((((σ 20).1 72 0 (jaIx (nI 1))) ≤ x5 → 
    (¬ x4 = (nI 3) → kk σ) ∧
    (x4 = (nI 3) → 
      (0 < x1 → kk σ) ∧
      (¬ 0 < x1 → 
        vp_in ((nI 415) + x2) 706 ∧ ((¬ ((σ 20).1 72 0 (jaIx ((nI 415) + x2))) = (nI 1) → 
          vp_in ((nI 415) + x2) 706 ∧ 
          (let σ1 : jaT := jaU σ 20 (jaUI (σ 20) 72 0 (jaIx ((nI 415) + x2)) (nI 1))
          vp_in ((nI 9) * x3) 576 ∧ (jaDe D) jy_M_comes [.inr (.inr (70, 20, 0)), .inl ((σ1 20).1 76 0 (jaIx ((nI 9) * x3)))] σ1 (jaKv fun σ2 =>
            kk σ2))) ∧
        (((σ 20).1 72 0 (jaIx ((nI 415) + x2))) = (nI 1) → kk σ))))) ∧
  (¬ ((σ 20).1 72 0 (jaIx (nI 1))) ≤ x5 → 
    (¬ x4 = (nI 2) → 
      (¬ x4 = (nI 3) → kk σ) ∧
      (x4 = (nI 3) → 
        (0 < x1 → kk σ) ∧
        (¬ 0 < x1 → 
          vp_in ((nI 415) + x2) 706 ∧ ((¬ ((σ 20).1 72 0 (jaIx ((nI 415) + x2))) = (nI 1) → 
            vp_in ((nI 415) + x2) 706 ∧ 
            (let σ3 : jaT := jaU σ 20 (jaUI (σ 20) 72 0 (jaIx ((nI 415) + x2)) (nI 1))
            vp_in ((nI 9) * x3) 576 ∧ (jaDe D) jy_M_comes [.inr (.inr (70, 20, 0)), .inl ((σ3 20).1 76 0 (jaIx ((nI 9) * x3)))] σ3 (jaKv fun σ4 =>
              kk σ4))) ∧
          (((σ 20).1 72 0 (jaIx ((nI 415) + x2))) = (nI 1) → kk σ))))) ∧
    (x4 = (nI 2) → 
      (jaDe D) jy_M_bitOf [.inl ((σ 20).1 70 0 29), .inl x5] σ (jaKi fun r6 σ5 =>
        (¬ r6 = 0 → 
          (¬ x1 = 0 → 
            vp_in x5 10 ∧ (vp_in (((nI 145) + ((nI 10) * x1)) + x5) 706 ∧ 
            (let σ7 : jaT := jaU σ5 20 (jaUI (σ5 20) 72 0 (jaIx (((nI 145) + ((nI 10) * x1)) + x5)) ((σ5 20).1 80 0 (jaIx x5)))
            jc_M_executes_1 D kk x1 x2 x3 x4 (x5 + (nI 1)) σ7))) ∧
          (x1 = 0 → 
            vp_in (nI 36) 706 ∧ ((¬ ((σ5 20).1 72 0 (jaIx (nI 36))) = (nI 1) → 
              vp_in x5 10 ∧ (vp_in (((nI 145) + ((nI 10) * x1)) + x5) 706 ∧ 
              (let σ8 : jaT := jaU σ5 20 (jaUI (σ5 20) 72 0 (jaIx (((nI 145) + ((nI 10) * x1)) + x5)) ((σ5 20).1 80 0 (jaIx x5)))
              jc_M_executes_1 D kk x1 x2 x3 x4 (x5 + (nI 1)) σ8))) ∧
            (((σ5 20).1 72 0 (jaIx (nI 36))) = (nI 1) → 
              vp_in (nI 37) 706 ∧ ((x2 < ((σ5 20).1 72 0 (jaIx (nI 37))) → 
                vp_in x5 10 ∧ (vp_in (((nI 145) + ((nI 10) * x1)) + x5) 706 ∧ 
                (let σ9 : jaT := jaU σ5 20 (jaUI (σ5 20) 72 0 (jaIx (((nI 145) + ((nI 10) * x1)) + x5)) ((σ5 20).1 80 0 (jaIx x5)))
                jc_M_executes_1 D kk x1 x2 x3 x4 (x5 + (nI 1)) σ9))) ∧
              (¬ x2 < ((σ5 20).1 72 0 (jaIx (nI 37))) → 
                vp_in (nI 38) 706 ∧ ((x5 < ((σ5 20).1 72 0 (jaIx (nI 38))) → 
                  vp_in x5 10 ∧ (vp_in (((nI 145) + ((nI 10) * x1)) + x5) 706 ∧ 
                  (let σ10 : jaT := jaU σ5 20 (jaUI (σ5 20) 72 0 (jaIx (((nI 145) + ((nI 10) * x1)) + x5)) ((σ5 20).1 80 0 (jaIx x5)))
                  jc_M_executes_1 D kk x1 x2 x3 x4 (x5 + (nI 1)) σ10))) ∧
                (¬ x5 < ((σ5 20).1 72 0 (jaIx (nI 38))) → 
                  vp_in (nI 39) 706 ∧ ((jaDe D) jy_M_bitOf [.inl ((σ5 20).1 72 0 (jaIx (nI 39))), .inl x5] σ5 (jaKi fun r12 σ11 =>
                    (¬ r12 = 0 → 
                      vp_in x5 10 ∧ (vp_in (((nI 145) + ((nI 10) * x1)) + x5) 706 ∧ 
                      (let σ13 : jaT := jaU σ11 20 (jaUI (σ11 20) 72 0 (jaIx (((nI 145) + ((nI 10) * x1)) + x5)) ((σ11 20).1 80 0 (jaIx x5)))
                      jc_M_executes_1 D kk x1 x2 x3 x4 (x5 + (nI 1)) σ13))) ∧
                    (r12 = 0 → 
                      vp_in (nI 39) 706 ∧ (vp_in (nI 39) 706 ∧ 
                      (let σ14 : jaT := jaU σ11 20 (jaUI (σ11 20) 72 0 (jaIx (nI 39)) (((σ11 20).1 72 0 (jaIx (nI 39))) ||| ((nI 1) <<< (x5 &&& 31))))
                      vp_in ((nI 145) + x5) 706 ∧ (vp_in ((nI 455) + x5) 706 ∧ 
                      (let σ15 : jaT := jaU σ14 20 (jaUI (σ14 20) 72 0 (jaIx ((nI 455) + x5)) ((σ14 20).1 72 0 (jaIx ((nI 145) + x5))))
                      vp_in x5 10 ∧ (vp_in (((nI 145) + ((nI 10) * x1)) + x5) 706 ∧ 
                      (let σ16 : jaT := jaU σ15 20 (jaUI (σ15 20) 72 0 (jaIx (((nI 145) + ((nI 10) * x1)) + x5)) ((σ15 20).1 80 0 (jaIx x5)))
                      jc_M_executes_1 D kk x1 x2 x3 x4 (x5 + (nI 1)) σ16))))))))))))))))) ∧
        (r6 = 0 → jc_M_executes_1 D kk x1 x2 x3 x4 (x5 + (nI 1)) σ5)))))) :
  jc_M_executes_1 D kk x1 x2 x3 x4 x5 σ :=
  jaRun_go (jaCall_self jaAr jaMt D) [1] 84 _ _ _ _ h
abbrev jm_M_copyGoes : jaM := (jf_M_copyGoes, jp_M_copyGoes, 5)
def jc_M_copyGoes_1 (D : Nat) (kk : jaT → Prop) (x1 : Int32) (x2 : Int32) (σ : jaT) : Prop := jaC (jaDe D) jm_M_copyGoes (jaKv kk) 1 [some (.inr (.inr (70, 20, 0))), some (.inl x1), some (.inl x2), none, none] [] σ
def jc_M_copyGoes_5 (D : Nat) (kk : jaT → Prop) (x1 : Int32) (x2 : Int32) (x3 : Int32) (u4 : Option jaV) (σ : jaT) : Prop := jaC (jaDe D) jm_M_copyGoes (jaKv kk) 5 [some (.inr (.inr (70, 20, 0))), some (.inl x1), some (.inl x2), some (.inl x3), u4] [] σ
def jc_M_copyGoes_11 (D : Nat) (kk : jaT → Prop) (x1 : Int32) (x2 : Int32) (x3 : Int32) (u4 : Option jaV) (σ : jaT) : Prop := jaC (jaDe D) jm_M_copyGoes (jaKv kk) 11 [some (.inr (.inr (70, 20, 0))), some (.inl x1), some (.inl x2), some (.inl x3), u4] [] σ
theorem js_M_copyGoes {D : Nat} {kk : jaT → Prop} {σ : jaT} {x1 : Int32} (h :
  jc_M_copyGoes_1 D kk x1 (nI 0) σ) :
  jaDe (D + 1) jy_M_copyGoes [.inr (.inr (70, 20, 0)), .inl x1] σ (jaKv kk) :=
  jaCall_intro (mt := jaMt) (y := jy_M_copyGoes) (f := jf_M_copyGoes) (ps := jp_M_copyGoes) (nL := 5) rfl rfl (jaRun_go (jaCall_self jaAr jaMt D) [1, 5, 11] 6 _ _ _ _ h)
set_option maxRecDepth 20000 in
theorem jb_M_copyGoes_1 {D : Nat} {kk : jaT → Prop} {σ : jaT} {x1 : Int32} {x2 : Int32} (h :
  vp_in (nI 34) 706 ∧ ((((σ 20).1 72 0 (jaIx (nI 34))) ≤ x2 → jc_M_copyGoes_5 D kk x1 (nI 0) (nI 0) none σ) ∧
  (¬ ((σ 20).1 72 0 (jaIx (nI 34))) ≤ x2 → 
    (jaDe D) jy_M_howIn [.inr (.inr (70, 20, 0)), .inl x1, .inl x2] σ (jaKi fun r2 σ1 =>
      (r2 = (nI 1) → 
        vp_in (((nI 295) + ((nI 40) * x1)) + x2) 706 ∧ (vp_in (((nI 295) + ((nI 40) * x1)) + x2) 706 ∧ 
        (let σ3 : jaT := jaU σ1 20 (jaUI (σ1 20) 72 0 (jaIx (((nI 295) + ((nI 40) * x1)) + x2)) (((σ1 20).1 72 0 (jaIx (((nI 295) + ((nI 40) * x1)) + x2))) - (nI 1)))
        vp_in (((nI 295) + ((nI 40) * x1)) + x2) 706 ∧ ((¬ ((σ3 20).1 72 0 (jaIx (((nI 295) + ((nI 40) * x1)) + x2))) = 0 → jc_M_copyGoes_1 D kk x1 (x2 + (nI 1)) σ3) ∧
        (((σ3 20).1 72 0 (jaIx (((nI 295) + ((nI 40) * x1)) + x2))) = 0 → 
          (jaDe D) jy_M_executes [.inr (.inr (70, 20, 0)), .inl x1, .inl x2] σ3 (jaKv fun σ4 =>
            jc_M_copyGoes_1 D kk x1 (x2 + (nI 1)) σ4)))))) ∧
      (¬ r2 = (nI 1) → jc_M_copyGoes_1 D kk x1 (x2 + (nI 1)) σ1))))) :
  jc_M_copyGoes_1 D kk x1 x2 σ :=
  jaRun_go (jaCall_self jaAr jaMt D) [1, 5, 11] 47 _ _ _ _ h
set_option maxRecDepth 20000 in
theorem jb_M_copyGoes_5 {D : Nat} {kk : jaT → Prop} {σ : jaT} {x1 : Int32} {x2 : Int32} {x3 : Int32} {u4 : Option jaV} (h :
  vp_in (nI 34) 706 ∧ ((((σ 20).1 72 0 (jaIx (nI 34))) ≤ x3 → jc_M_copyGoes_11 D kk x1 x2 (nI 0) u4 σ) ∧
  (¬ ((σ 20).1 72 0 (jaIx (nI 34))) ≤ x3 → 
    vp_in ((nI 28) + x1) 706 ∧ ((¬ ((σ 20).1 72 0 (jaIx ((nI 28) + x1))) = (nI 1) → 
      vp_in ((nI 25) + x1) 706 ∧ ((x2 = ((σ 20).1 72 0 (jaIx ((nI 25) + x1))) → jc_M_copyGoes_5 D kk x1 x2 (x3 + (nI 1)) (some (.inl x3)) σ) ∧
      (¬ x2 = ((σ 20).1 72 0 (jaIx ((nI 25) + x1))) → 
        (jaDe D) jy_M_isReady [.inr (.inr (70, 20, 0)), .inl x1, .inl x3] σ (jaKi fun r2 σ1 =>
          (¬ r2 = 0 → 
            vp_in x2 40 ∧ 
            (let σ3 : jaT := jaU σ1 20 (jaUI (σ1 20) 82 0 (jaIx x2) x3)
            jc_M_copyGoes_5 D kk x1 (x2 + (nI 1)) (x3 + (nI 1)) (some (.inl x3)) σ3)) ∧
          (r2 = 0 → 
            jc_M_copyGoes_5 D kk x1 x2 (x3 + (nI 1)) (some (.inl x3)) σ1))))) ∧
    (((σ 20).1 72 0 (jaIx ((nI 28) + x1))) = (nI 1) → 
      vp_in (nI 34) 706 ∧ (vp_in ((nI 25) + x1) 706 ∧ ((x2 = ((σ 20).1 72 0 (jaIx ((nI 25) + x1))) → 
        jc_M_copyGoes_5 D kk x1 x2 (x3 + (nI 1)) (some (.inl ((((σ 20).1 72 0 (jaIx (nI 34))) - (nI 1)) - x3))) σ) ∧
      (¬ x2 = ((σ 20).1 72 0 (jaIx ((nI 25) + x1))) → 
        (jaDe D) jy_M_isReady [.inr (.inr (70, 20, 0)), .inl x1, .inl ((((σ 20).1 72 0 (jaIx (nI 34))) - (nI 1)) - x3)] σ (jaKi fun r5 σ4 =>
          (¬ r5 = 0 → 
            vp_in x2 40 ∧ 
            (let σ6 : jaT := jaU σ4 20 (jaUI (σ4 20) 82 0 (jaIx x2) ((((σ 20).1 72 0 (jaIx (nI 34))) - (nI 1)) - x3))
            jc_M_copyGoes_5 D kk x1 (x2 + (nI 1)) (x3 + (nI 1)) (some (.inl ((((σ 20).1 72 0 (jaIx (nI 34))) - (nI 1)) - x3))) σ6)) ∧
          (r5 = 0 → 
            jc_M_copyGoes_5 D kk x1 x2 (x3 + (nI 1)) (some (.inl ((((σ 20).1 72 0 (jaIx (nI 34))) - (nI 1)) - x3))) σ4)))))))))) :
  jc_M_copyGoes_5 D kk x1 x2 x3 u4 σ :=
  jaRun_go (jaCall_self jaAr jaMt D) [1, 5, 11] 49 _ _ _ _ h
set_option maxRecDepth 20000 in
theorem jb_M_copyGoes_11 {D : Nat} {kk : jaT → Prop} {σ : jaT} {x1 : Int32} {x2 : Int32} {x3 : Int32} {u4 : Option jaV} (h :
  (x2 ≤ x3 → kk σ) ∧
  (¬ x2 ≤ x3 → 
    vp_in x3 40 ∧ ((jaDe D) jy_M_isLong [.inr (.inr (70, 20, 0)), .inl ((σ 20).1 82 0 (jaIx x3))] σ (jaKi fun r2 σ1 =>
      (r2 = 0 → 
        vp_in x3 40 ∧ (jaDe D) jy_M_executes [.inr (.inr (70, 20, 0)), .inl x1, .inl ((σ1 20).1 82 0 (jaIx x3))] σ1 (jaKv fun σ3 =>
          jc_M_copyGoes_11 D kk x1 x2 (x3 + (nI 1)) u4 σ3)) ∧
      (¬ r2 = 0 → 
        vp_in x3 40 ∧ (vp_in (((nI 175) + ((nI 40) * x1)) + ((σ1 20).1 82 0 (jaIx x3))) 706 ∧ 
        (let σ4 : jaT := jaU σ1 20 (jaUI (σ1 20) 72 0 (jaIx (((nI 175) + ((nI 40) * x1)) + ((σ1 20).1 82 0 (jaIx x3)))) (nI 1))
        vp_in x3 40 ∧ (vp_in (nI 4) 706 ∧ (vp_in (((nI 295) + ((nI 40) * x1)) + ((σ4 20).1 82 0 (jaIx x3))) 706 ∧ 
        (let σ5 : jaT := jaU σ4 20 (jaUI (σ4 20) 72 0 (jaIx (((nI 295) + ((nI 40) * x1)) + ((σ4 20).1 82 0 (jaIx x3)))) ((σ4 20).1 72 0 (jaIx (nI 4))))
        jc_M_copyGoes_11 D kk x1 x2 (x3 + (nI 1)) u4 σ5)))))))))) :
  jc_M_copyGoes_11 D kk x1 x2 x3 u4 σ :=
  jaRun_go (jaCall_self jaAr jaMt D) [1, 5, 11] 47 _ _ _ _ h
abbrev jm_M_areOver : jaM := (jf_M_areOver, jp_M_areOver, 5)
def jc_M_areOver_1 (D : Nat) (kk : Int32 → jaT → Prop) (x1 : Int32) (x2 : Int32) (x3 : Int32) (x4 : Int32) (σ : jaT) : Prop := jaC (jaDe D) jm_M_areOver (jaKi kk) 1 [some (.inr (.inr (70, 20, 0))), some (.inl x1), some (.inl x2), some (.inl x3), some (.inl x4)] [] σ
theorem js_M_areOver {D : Nat} {kk : Int32 → jaT → Prop} {σ : jaT} {x1 : Int32} {x2 : Int32} (h :
  jc_M_areOver_1 D kk x1 x2 (nI 1) (nI 0) σ) :
  jaDe (D + 1) jy_M_areOver [.inr (.inr (70, 20, 0)), .inl x1, .inl x2] σ (jaKi kk) :=
  jaCall_intro (mt := jaMt) (y := jy_M_areOver) (f := jf_M_areOver) (ps := jp_M_areOver) (nL := 5) rfl rfl (jaRun_go (jaCall_self jaAr jaMt D) [1] 8 _ _ _ _ h)
theorem jb_M_areOver_1 {D : Nat} {kk : Int32 → jaT → Prop} {σ : jaT} {x1 : Int32} {x2 : Int32} {x3 : Int32} {x4 : Int32} (h :
  (x2 ≤ x4 → (x3 = 0 ∨ x3 = 1) ∧ kk x3 σ) ∧
  (¬ x2 ≤ x4 → 
    (x3 = 0 → jc_M_areOver_1 D kk x1 x2 (nI 0) (x4 + (nI 1)) σ) ∧
    (¬ x3 = 0 → 
      (jaDe D) jy_M_isOver [.inr (.inr (70, 20, 0)), .inl x1, .inl x4] σ (jaKi fun r2 σ1 =>
        (r2 = 0 → jc_M_areOver_1 D kk x1 x2 (nI 0) (x4 + (nI 1)) σ1) ∧
        (¬ r2 = 0 → jc_M_areOver_1 D kk x1 x2 (nI 1) (x4 + (nI 1)) σ1))))) :
  jc_M_areOver_1 D kk x1 x2 x3 x4 σ :=
  jaRun_go (jaCall_self jaAr jaMt D) [1] 18 _ _ _ _ h
abbrev jm_M_savesAll : jaM := (jf_M_savesAll, jp_M_savesAll, 2)
def jc_M_savesAll_1 (D : Nat) (kk : jaT → Prop) (x1 : Int32) (σ : jaT) : Prop := jaC (jaDe D) jm_M_savesAll (jaKv kk) 1 [some (.inr (.inr (70, 20, 0))), some (.inl x1)] [] σ
def jc_M_savesAll_3 (D : Nat) (kk : jaT → Prop) (x1 : Int32) (σ : jaT) : Prop := jaC (jaDe D) jm_M_savesAll (jaKv kk) 3 [some (.inr (.inr (70, 20, 0))), some (.inl x1)] [] σ
theorem js_M_savesAll {D : Nat} {kk : jaT → Prop} {σ : jaT}  (h :
  vp_in (nI 37) 706 ∧ (vp_in (nI 40) 706 ∧ 
  (let σ1 : jaT := jaU σ 20 (jaUI (σ 20) 72 0 (jaIx (nI 40)) ((σ 20).1 72 0 (jaIx (nI 37))))
  jc_M_savesAll_1 D kk (nI 0) σ1))) :
  jaDe (D + 1) jy_M_savesAll [.inr (.inr (70, 20, 0))] σ (jaKv kk) :=
  jaCall_intro (mt := jaMt) (y := jy_M_savesAll) (f := jf_M_savesAll) (ps := jp_M_savesAll) (nL := 2) rfl rfl (jaRun_go (jaCall_self jaAr jaMt D) [1, 3] 14 _ _ _ _ h)
theorem jb_M_savesAll_1 {D : Nat} {kk : jaT → Prop} {σ : jaT} {x1 : Int32} (h :
  vp_in (nI 1) 706 ∧ ((((σ 20).1 72 0 (jaIx (nI 1))) ≤ x1 → jc_M_savesAll_3 D kk (nI 0) σ) ∧
  (¬ ((σ 20).1 72 0 (jaIx (nI 1))) ≤ x1 → 
    vp_in ((nI 465) + x1) 706 ∧ (vp_in ((nI 475) + x1) 706 ∧ 
    (let σ1 : jaT := jaU σ 20 (jaUI (σ 20) 72 0 (jaIx ((nI 475) + x1)) ((σ 20).1 72 0 (jaIx ((nI 465) + x1))))
    jc_M_savesAll_1 D kk (x1 + (nI 1)) σ1))))) :
  jc_M_savesAll_1 D kk x1 σ :=
  jaRun_go (jaCall_self jaAr jaMt D) [1, 3] 23 _ _ _ _ h
theorem jb_M_savesAll_3 {D : Nat} {kk : jaT → Prop} {σ : jaT} {x1 : Int32} (h :
  ((nI 40) ≤ x1 → 
    (jaDe D) jy_M_ceases [.inr (.inr (70, 20, 0))] σ (jaKv fun σ1 =>
      kk σ1)) ∧
  (¬ (nI 40) ≤ x1 → 
    vp_in (nI 37) 706 ∧ ((((σ 20).1 72 0 (jaIx (nI 37))) ≤ x1 → 
      vp_in ((nI 485) + x1) 706 ∧ 
      (let σ2 : jaT := jaU σ 20 (jaUI (σ 20) 72 0 (jaIx ((nI 485) + x1)) (nI 0))
      jc_M_savesAll_3 D kk (x1 + (nI 1)) σ2)) ∧
    (¬ ((σ 20).1 72 0 (jaIx (nI 37))) ≤ x1 → 
      (jaDe D) jy_M_howIn [.inr (.inr (70, 20, 0)), .inl (nI 0), .inl x1] σ (jaKi fun r4 σ3 =>
        vp_in ((nI 485) + x1) 706 ∧ 
        (let σ5 : jaT := jaU σ3 20 (jaUI (σ3 20) 72 0 (jaIx ((nI 485) + x1)) r4)
        jc_M_savesAll_3 D kk (x1 + (nI 1)) σ5)))))) :
  jc_M_savesAll_3 D kk x1 σ :=
  jaRun_go (jaCall_self jaAr jaMt D) [1, 3] 25 _ _ _ _ h
abbrev jm_M_ceases : jaM := (jf_M_ceases, jp_M_ceases, 2)
def jc_M_ceases_1 (D : Nat) (kk : jaT → Prop) (x1 : Int32) (σ : jaT) : Prop := jaC (jaDe D) jm_M_ceases (jaKv kk) 1 [some (.inr (.inr (70, 20, 0))), some (.inl x1)] [] σ
theorem js_M_ceases {D : Nat} {kk : jaT → Prop} {σ : jaT}  (h :
  vp_in (nI 36) 706 ∧ 
  (let σ1 : jaT := jaU σ 20 (jaUI (σ 20) 72 0 (jaIx (nI 36)) (nI 0))
  vp_in (nI 37) 706 ∧ 
  (let σ2 : jaT := jaU σ1 20 (jaUI (σ1 20) 72 0 (jaIx (nI 37)) (nI 0))
  vp_in (nI 38) 706 ∧ 
  (let σ3 : jaT := jaU σ2 20 (jaUI (σ2 20) 72 0 (jaIx (nI 38)) (nI 0))
  vp_in (nI 39) 706 ∧ 
  (let σ4 : jaT := jaU σ3 20 (jaUI (σ3 20) 72 0 (jaIx (nI 39)) (nI 0))
  jc_M_ceases_1 D kk (nI 0) σ4))))) :
  jaDe (D + 1) jy_M_ceases [.inr (.inr (70, 20, 0))] σ (jaKv kk) :=
  jaCall_intro (mt := jaMt) (y := jy_M_ceases) (f := jf_M_ceases) (ps := jp_M_ceases) (nL := 2) rfl rfl (jaRun_go (jaCall_self jaAr jaMt D) [1] 26 _ _ _ _ h)
theorem jb_M_ceases_1 {D : Nat} {kk : jaT → Prop} {σ : jaT} {x1 : Int32} (h :
  ((nI 10) ≤ x1 → kk σ) ∧
  (¬ (nI 10) ≤ x1 → 
    vp_in ((nI 455) + x1) 706 ∧ 
    (let σ1 : jaT := jaU σ 20 (jaUI (σ 20) 72 0 (jaIx ((nI 455) + x1)) (nI 0))
    vp_in ((nI 465) + x1) 706 ∧ 
    (let σ2 : jaT := jaU σ1 20 (jaUI (σ1 20) 72 0 (jaIx ((nI 465) + x1)) (nI 0))
    jc_M_ceases_1 D kk (x1 + (nI 1)) σ2)))) :
  jc_M_ceases_1 D kk x1 σ :=
  jaRun_go (jaCall_self jaAr jaMt D) [1] 22 _ _ _ _ h
abbrev jm_M_checks : jaM := (jf_M_checks, jp_M_checks, 1)
theorem js_M_checks {D : Nat} {kk : jaT → Prop} {σ : jaT}  (h :
  vp_in (nI 36) 706 ∧ 
  (let σ1 : jaT := jaU σ 20 (jaUI (σ 20) 72 0 (jaIx (nI 36)) (nI 1))
  vp_in (nI 34) 706 ∧ (vp_in (nI 37) 706 ∧ 
  (let σ2 : jaT := jaU σ1 20 (jaUI (σ1 20) 72 0 (jaIx (nI 37)) ((σ1 20).1 72 0 (jaIx (nI 34))))
  vp_in (nI 1) 706 ∧ ((¬ ((σ2 20).1 72 0 (jaIx (nI 1))) = 0 → kk σ2) ∧
  (((σ2 20).1 72 0 (jaIx (nI 1))) = 0 → 
    (jaDe D) jy_M_savesAll [.inr (.inr (70, 20, 0))] σ2 (jaKv fun σ3 =>
      kk σ3))))))) :
  jaDe (D + 1) jy_M_checks [.inr (.inr (70, 20, 0))] σ (jaKv kk) :=
  jaCall_intro (mt := jaMt) (y := jy_M_checks) (f := jf_M_checks) (ps := jp_M_checks) (nL := 1) rfl rfl (jaRun_go (jaCall_self jaAr jaMt D) [] 25 _ _ _ _ h)
abbrev jm_M_takesNext : jaM := (jf_M_takesNext, jp_M_takesNext, 2)
set_option maxRecDepth 20000 in
theorem js_M_takesNext {D : Nat} {kk : jaT → Prop} {σ : jaT}  (h :
  vp_in (nI 36) 706 ∧ ((((σ 20).1 72 0 (jaIx (nI 36))) = 0 → kk σ) ∧
  (¬ ((σ 20).1 72 0 (jaIx (nI 36))) = 0 → 
    vp_in (nI 37) 706 ∧ ((jaDe D) jy_M_areOver [.inr (.inr (70, 20, 0)), .inl (nI 0), .inl ((σ 20).1 72 0 (jaIx (nI 37)))] σ (jaKi fun r2 σ1 =>
      (¬ r2 = 0 → 
        vp_in (nI 38) 706 ∧ (vp_in (nI 39) 706 ∧ ((jaDe D) jy_M_bitOf [.inl ((σ1 20).1 72 0 (jaIx (nI 39))), .inl ((σ1 20).1 72 0 (jaIx (nI 38)))] σ1 (jaKi fun r4 σ3 =>
          (r4 = 0 → 
            vp_in ((nI 145) + ((σ1 20).1 72 0 (jaIx (nI 38)))) 706 ∧ (vp_in ((nI 465) + ((σ1 20).1 72 0 (jaIx (nI 38)))) 706 ∧ 
            (let σ5 : jaT := jaU σ3 20 (jaUI (σ3 20) 72 0 (jaIx ((nI 465) + ((σ1 20).1 72 0 (jaIx (nI 38))))) ((σ3 20).1 72 0 (jaIx ((nI 145) + ((σ1 20).1 72 0 (jaIx (nI 38)))))))
            vp_in (nI 38) 706 ∧ (vp_in (nI 38) 706 ∧ 
            (let σ6 : jaT := jaU σ5 20 (jaUI (σ5 20) 72 0 (jaIx (nI 38)) (((σ5 20).1 72 0 (jaIx (nI 38))) + (nI 1)))
            vp_in (nI 38) 706 ∧ (vp_in (nI 1) 706 ∧ ((¬ ((σ6 20).1 72 0 (jaIx (nI 38))) = ((σ6 20).1 72 0 (jaIx (nI 1))) → kk σ6) ∧
            (((σ6 20).1 72 0 (jaIx (nI 38))) = ((σ6 20).1 72 0 (jaIx (nI 1))) → 
              (jaDe D) jy_M_savesAll [.inr (.inr (70, 20, 0))] σ6 (jaKv fun σ7 =>
                kk σ7))))))))) ∧
          (¬ r4 = 0 → 
            vp_in ((nI 455) + ((σ1 20).1 72 0 (jaIx (nI 38)))) 706 ∧ (vp_in ((nI 465) + ((σ1 20).1 72 0 (jaIx (nI 38)))) 706 ∧ 
            (let σ8 : jaT := jaU σ3 20 (jaUI (σ3 20) 72 0 (jaIx ((nI 465) + ((σ1 20).1 72 0 (jaIx (nI 38))))) ((σ3 20).1 72 0 (jaIx ((nI 455) + ((σ1 20).1 72 0 (jaIx (nI 38)))))))
            vp_in (nI 38) 706 ∧ (vp_in (nI 38) 706 ∧ 
            (let σ9 : jaT := jaU σ8 20 (jaUI (σ8 20) 72 0 (jaIx (nI 38)) (((σ8 20).1 72 0 (jaIx (nI 38))) + (nI 1)))
            vp_in (nI 38) 706 ∧ (vp_in (nI 1) 706 ∧ ((¬ ((σ9 20).1 72 0 (jaIx (nI 38))) = ((σ9 20).1 72 0 (jaIx (nI 1))) → kk σ9) ∧
            (((σ9 20).1 72 0 (jaIx (nI 38))) = ((σ9 20).1 72 0 (jaIx (nI 1))) → 
              (jaDe D) jy_M_savesAll [.inr (.inr (70, 20, 0))] σ9 (jaKv fun σ10 =>
                kk σ10))))))))))))) ∧
      (r2 = 0 → kk σ1)))))) :
  jaDe (D + 1) jy_M_takesNext [.inr (.inr (70, 20, 0))] σ (jaKv kk) :=
  jaCall_intro (mt := jaMt) (y := jy_M_takesNext) (f := jf_M_takesNext) (ps := jp_M_takesNext) (nL := 2) rfl rfl (jaRun_go (jaCall_self jaAr jaMt D) [] 62 _ _ _ _ h)
abbrev jm_M_agrees : jaM := (jf_M_agrees, jp_M_agrees, 5)
def jc_M_agrees_1 (D : Nat) (kk : jaT → Prop) (x1 : Int32) (u2 : Option jaV) (u3 : Option jaV) (u4 : Option jaV) (σ : jaT) : Prop := jaC (jaDe D) jm_M_agrees (jaKv kk) 1 [some (.inr (.inr (70, 20, 0))), some (.inl x1), u2, u3, u4] [] σ
def jc_M_agrees_2 (D : Nat) (kk : jaT → Prop) (x1 : Int32) (x2 : Int32) (x3 : Int32) (u4 : Option jaV) (σ : jaT) : Prop := jaC (jaDe D) jm_M_agrees (jaKv kk) 2 [some (.inr (.inr (70, 20, 0))), some (.inl x1), some (.inl x2), some (.inl x3), u4] [] σ
def jc_M_agrees_6 (D : Nat) (kk : jaT → Prop) (x1 : Int32) (x2 : Int32) (x3 : Int32) (u4 : Option jaV) (σ : jaT) : Prop := jaC (jaDe D) jm_M_agrees (jaKv kk) 6 [some (.inr (.inr (70, 20, 0))), some (.inl x1), some (.inl x2), some (.inl x3), u4] [] σ
theorem js_M_agrees {D : Nat} {kk : jaT → Prop} {σ : jaT}  (h :
  jc_M_agrees_1 D kk (nI 0) none none none σ) :
  jaDe (D + 1) jy_M_agrees [.inr (.inr (70, 20, 0))] σ (jaKv kk) :=
  jaCall_intro (mt := jaMt) (y := jy_M_agrees) (f := jf_M_agrees) (ps := jp_M_agrees) (nL := 5) rfl rfl (jaRun_go (jaCall_self jaAr jaMt D) [1, 2, 6] 6 _ _ _ _ h)
theorem jb_M_agrees_1 {D : Nat} {kk : jaT → Prop} {σ : jaT} {x1 : Int32} {u2 : Option jaV} {u3 : Option jaV} {u4 : Option jaV} (h :
  vp_in (nI 0) 706 ∧ ((((σ 20).1 72 0 (jaIx (nI 0))) ≤ x1 → kk σ) ∧
  (¬ ((σ 20).1 72 0 (jaIx (nI 0))) ≤ x1 → jc_M_agrees_2 D kk x1 (nI 0) (nI 0) u4 σ))) :
  jc_M_agrees_1 D kk x1 u2 u3 u4 σ :=
  jaRun_go (jaCall_self jaAr jaMt D) [1, 2, 6] 14 _ _ _ _ h
set_option maxRecDepth 20000 in
theorem jb_M_agrees_2 {D : Nat} {kk : jaT → Prop} {σ : jaT} {x1 : Int32} {x2 : Int32} {x3 : Int32} {u4 : Option jaV} (h :
  vp_in (nI 35) 706 ∧ ((((σ 20).1 72 0 (jaIx (nI 35))) ≤ x3 → jc_M_agrees_6 D kk x1 x2 x2 u4 σ) ∧
  (¬ ((σ 20).1 72 0 (jaIx (nI 35))) ≤ x3 → 
    vp_in ((nI 81) + x3) 706 ∧ (vp_in (((nI 9) * ((σ 20).1 72 0 (jaIx ((nI 81) + x3)))) + (nI 1)) 576 ∧ ((¬ ((σ 20).1 76 0 (jaIx (((nI 9) * ((σ 20).1 72 0 (jaIx ((nI 81) + x3)))) + (nI 1)))) = x1 → 
      vp_in ((nI 81) + x2) 706 ∧ 
      (let σ1 : jaT := jaU σ 20 (jaUI (σ 20) 72 0 (jaIx ((nI 81) + x2)) ((σ 20).1 72 0 (jaIx ((nI 81) + x3))))
      jc_M_agrees_2 D kk x1 (x2 + (nI 1)) (x3 + (nI 1)) (some (.inl ((σ 20).1 72 0 (jaIx ((nI 81) + x3))))) σ1)) ∧
    (((σ 20).1 76 0 (jaIx (((nI 9) * ((σ 20).1 72 0 (jaIx ((nI 81) + x3)))) + (nI 1)))) = x1 → 
      vp_in (nI 34) 706 ∧ (((nI 40) ≤ ((σ 20).1 72 0 (jaIx (nI 34))) → 
        vp_in ((nI 81) + x2) 706 ∧ 
        (let σ2 : jaT := jaU σ 20 (jaUI (σ 20) 72 0 (jaIx ((nI 81) + x2)) ((σ 20).1 72 0 (jaIx ((nI 81) + x3))))
        jc_M_agrees_2 D kk x1 (x2 + (nI 1)) (x3 + (nI 1)) (some (.inl ((σ 20).1 72 0 (jaIx ((nI 81) + x3))))) σ2)) ∧
      (¬ (nI 40) ≤ ((σ 20).1 72 0 (jaIx (nI 34))) → 
        vp_in (nI 34) 706 ∧ (vp_in ((nI 41) + ((σ 20).1 72 0 (jaIx (nI 34)))) 706 ∧ 
        (let σ3 : jaT := jaU σ 20 (jaUI (σ 20) 72 0 (jaIx ((nI 41) + ((σ 20).1 72 0 (jaIx (nI 34))))) ((σ 20).1 72 0 (jaIx ((nI 81) + x3))))
        vp_in (nI 34) 706 ∧ (vp_in (nI 34) 706 ∧ 
        (let σ4 : jaT := jaU σ3 20 (jaUI (σ3 20) 72 0 (jaIx (nI 34)) (((σ3 20).1 72 0 (jaIx (nI 34))) + (nI 1)))
        jc_M_agrees_2 D kk x1 x2 (x3 + (nI 1)) (some (.inl ((σ 20).1 72 0 (jaIx ((nI 81) + x3))))) σ4)))))))))))) :
  jc_M_agrees_2 D kk x1 x2 x3 u4 σ :=
  jaRun_go (jaCall_self jaAr jaMt D) [1, 2, 6] 53 _ _ _ _ h
theorem jb_M_agrees_6 {D : Nat} {kk : jaT → Prop} {σ : jaT} {x1 : Int32} {x2 : Int32} {x3 : Int32} {u4 : Option jaV} (h :
  vp_in (nI 35) 706 ∧ ((((σ 20).1 72 0 (jaIx (nI 35))) ≤ x3 → 
    vp_in (nI 35) 706 ∧ 
    (let σ1 : jaT := jaU σ 20 (jaUI (σ 20) 72 0 (jaIx (nI 35)) x2)
    jc_M_agrees_1 D kk (x1 + (nI 1)) (some (.inl x2)) (some (.inl x3)) u4 σ1)) ∧
  (¬ ((σ 20).1 72 0 (jaIx (nI 35))) ≤ x3 → 
    vp_in ((nI 81) + x3) 706 ∧ 
    (let σ2 : jaT := jaU σ 20 (jaUI (σ 20) 72 0 (jaIx ((nI 81) + x3)) (nI 0))
    jc_M_agrees_6 D kk x1 x2 (x3 + (nI 1)) u4 σ2)))) :
  jc_M_agrees_6 D kk x1 x2 x3 u4 σ :=
  jaRun_go (jaCall_self jaAr jaMt D) [1, 2, 6] 18 _ _ _ _ h
abbrev jm_M_tick : jaM := (jf_M_tick, jp_M_tick, 2)
def jc_M_tick_1 (D : Nat) (kk : jaT → Prop) (x1 : Int32) (σ : jaT) : Prop := jaC (jaDe D) jm_M_tick (jaKv kk) 1 [some (.inr (.inr (70, 20, 0))), some (.inl x1)] [] σ
theorem js_M_tick {D : Nat} {kk : jaT → Prop} {σ : jaT}  (h :
  jc_M_tick_1 D kk (nI 0) σ) :
  jaDe (D + 1) jy_M_tick [.inr (.inr (70, 20, 0))] σ (jaKv kk) :=
  jaCall_intro (mt := jaMt) (y := jy_M_tick) (f := jf_M_tick) (ps := jp_M_tick) (nL := 2) rfl rfl (jaRun_go (jaCall_self jaAr jaMt D) [1] 6 _ _ _ _ h)
theorem jb_M_tick_1 {D : Nat} {kk : jaT → Prop} {σ : jaT} {x1 : Int32} (h :
  vp_in (nI 2) 706 ∧ ((((σ 20).1 72 0 (jaIx (nI 2))) ≤ x1 → 
    (jaDe D) jy_M_takesNext [.inr (.inr (70, 20, 0))] σ (jaKv fun σ1 =>
      vp_in (nI 31) 706 ∧ (vp_in (nI 3) 706 ∧ (¬ ((σ1 20).1 72 0 (jaIx (nI 3))) = 0 ∧ ((¬ ((((σ1 20).1 72 0 (jaIx (nI 31))) + (nI 1)) - (((σ1 20).1 72 0 (jaIx (nI 31))) + (nI 1)) / ((σ1 20).1 72 0 (jaIx (nI 3))) * ((σ1 20).1 72 0 (jaIx (nI 3)))) = 0 → 
        vp_in (nI 31) 706 ∧ (vp_in (nI 31) 706 ∧ 
        (let σ2 : jaT := jaU σ1 20 (jaUI (σ1 20) 72 0 (jaIx (nI 31)) (((σ1 20).1 72 0 (jaIx (nI 31))) + (nI 1)))
        kk σ2))) ∧
      (((((σ1 20).1 72 0 (jaIx (nI 31))) + (nI 1)) - (((σ1 20).1 72 0 (jaIx (nI 31))) + (nI 1)) / ((σ1 20).1 72 0 (jaIx (nI 3))) * ((σ1 20).1 72 0 (jaIx (nI 3)))) = 0 → 
        (jaDe D) jy_M_agrees [.inr (.inr (70, 20, 0))] σ1 (jaKv fun σ3 =>
          vp_in (nI 31) 706 ∧ (vp_in (nI 31) 706 ∧ 
          (let σ4 : jaT := jaU σ3 20 (jaUI (σ3 20) 72 0 (jaIx (nI 31)) (((σ3 20).1 72 0 (jaIx (nI 31))) + (nI 1)))
          kk σ4))))))))) ∧
  (¬ ((σ 20).1 72 0 (jaIx (nI 2))) ≤ x1 → 
    (jaDe D) jy_M_copyGoes [.inr (.inr (70, 20, 0)), .inl x1] σ (jaKv fun σ5 =>
      jc_M_tick_1 D kk (x1 + (nI 1)) σ5)))) :
  jc_M_tick_1 D kk x1 σ :=
  jaRun_go (jaCall_self jaAr jaMt D) [1] 35 _ _ _ _ h
abbrev jm_M_goesOn : jaM := (jf_M_goesOn, jp_M_goesOn, 3)
def jc_M_goesOn_1 (D : Nat) (kk : Int32 → jaT → Prop) (x1 : Int32) (x2 : Int32) (σ : jaT) : Prop := jaC (jaDe D) jm_M_goesOn (jaKi kk) 1 [some (.inr (.inr (70, 20, 0))), some (.inl x1), some (.inl x2)] [] σ
theorem js_M_goesOn {D : Nat} {kk : Int32 → jaT → Prop} {σ : jaT} {x1 : Int32} (h :
  jc_M_goesOn_1 D kk x1 (nI 0) σ) :
  jaDe (D + 1) jy_M_goesOn [.inr (.inr (70, 20, 0)), .inl x1] σ (jaKi kk) :=
  jaCall_intro (mt := jaMt) (y := jy_M_goesOn) (f := jf_M_goesOn) (ps := jp_M_goesOn) (nL := 3) rfl rfl (jaRun_go (jaCall_self jaAr jaMt D) [1] 6 _ _ _ _ h)
theorem jb_M_goesOn_1 {D : Nat} {kk : Int32 → jaT → Prop} {σ : jaT} {x1 : Int32} {x2 : Int32} (h :
  (x1 ≤ x2 → kk x2 σ) ∧
  (¬ x1 ≤ x2 → 
    vp_in (nI 31) 706 ∧ (((nI 1000) ≤ ((σ 20).1 72 0 (jaIx (nI 31))) → kk x2 σ) ∧
    (¬ (nI 1000) ≤ ((σ 20).1 72 0 (jaIx (nI 31))) → 
      (jaDe D) jy_M_tick [.inr (.inr (70, 20, 0))] σ (jaKv fun σ1 =>
        jc_M_goesOn_1 D kk x1 (x2 + (nI 1)) σ1))))) :
  jc_M_goesOn_1 D kk x1 x2 σ :=
  jaRun_go (jaCall_self jaAr jaMt D) [1] 16 _ _ _ _ h
abbrev jm_M_putsTrans : jaM := (jf_M_putsTrans, jp_M_putsTrans, 4)
def jc_M_putsTrans_1 (D : Nat) (kk : jaT → Prop) (x1 : Int32) (x2 : Int32) (x3 : Int32) (σ : jaT) : Prop := jaC (jaDe D) jm_M_putsTrans (jaKv kk) 1 [some (.inr (.inr (70, 20, 0))), some (.inl x1), some (.inl x2), some (.inl x3)] [] σ
theorem js_M_putsTrans {D : Nat} {kk : jaT → Prop} {σ : jaT} {x1 : Int32} {x2 : Int32} (h :
  jc_M_putsTrans_1 D kk x1 x2 (nI 0) σ) :
  jaDe (D + 1) jy_M_putsTrans [.inr (.inr (70, 20, 0)), .inl x1, .inl x2] σ (jaKv kk) :=
  jaCall_intro (mt := jaMt) (y := jy_M_putsTrans) (f := jf_M_putsTrans) (ps := jp_M_putsTrans) (nL := 4) rfl rfl (jaRun_go (jaCall_self jaAr jaMt D) [1] 6 _ _ _ _ h)
theorem jb_M_putsTrans_1 {D : Nat} {kk : jaT → Prop} {σ : jaT} {x1 : Int32} {x2 : Int32} {x3 : Int32} (h :
  ((nI 133) ≤ x3 → 
    vp_in (nI 32) 706 ∧ (vp_in ((nI 133) * ((σ 20).1 72 0 (jaIx (nI 32)))) 3192 ∧ 
    (let σ1 : jaT := jaU σ 20 (jaUI (σ 20) 75 0 (jaIx ((nI 133) * ((σ 20).1 72 0 (jaIx (nI 32))))) x1)
    vp_in (nI 32) 706 ∧ (vp_in (nI 32) 706 ∧ 
    (let σ2 : jaT := jaU σ1 20 (jaUI (σ1 20) 72 0 (jaIx (nI 32)) (((σ1 20).1 72 0 (jaIx (nI 32))) + (nI 1)))
    vp_in (nI 32) 706 ∧ (jaDe D) jy_M_comes [.inr (.inr (70, 20, 0)), .inl (((σ2 20).1 72 0 (jaIx (nI 32))) - (nI 1))] σ2 (jaKv fun σ3 =>
      kk σ3)))))) ∧
  (¬ (nI 133) ≤ x3 → 
    vp_in (nI 32) 706 ∧ (vp_in (((nI 133) * x2) + x3) 3192 ∧ (vp_in (((nI 133) * ((σ 20).1 72 0 (jaIx (nI 32)))) + x3) 3192 ∧ 
    (let σ4 : jaT := jaU σ 20 (jaUI (σ 20) 75 0 (jaIx (((nI 133) * ((σ 20).1 72 0 (jaIx (nI 32)))) + x3)) ((σ 20).1 75 0 (jaIx (((nI 133) * x2) + x3))))
    jc_M_putsTrans_1 D kk x1 x2 (x3 + (nI 1)) σ4))))) :
  jc_M_putsTrans_1 D kk x1 x2 x3 σ :=
  jaRun_go (jaCall_self jaAr jaMt D) [1] 33 _ _ _ _ h
abbrev jm_M_crashes : jaM := (jf_M_crashes, jp_M_crashes, 3)
def jc_M_crashes_2 (D : Nat) (kk : jaT → Prop) (x1 : Int32) (x2 : Int32) (σ : jaT) : Prop := jaC (jaDe D) jm_M_crashes (jaKv kk) 2 [some (.inr (.inr (70, 20, 0))), some (.inl x1), some (.inl x2)] [] σ
def jc_M_crashes_4 (D : Nat) (kk : jaT → Prop) (x1 : Int32) (x2 : Int32) (σ : jaT) : Prop := jaC (jaDe D) jm_M_crashes (jaKv kk) 4 [some (.inr (.inr (70, 20, 0))), some (.inl x1), some (.inl x2)] [] σ
theorem js_M_crashes {D : Nat} {kk : jaT → Prop} {σ : jaT} {x1 : Int32} (h :
  (¬ x1 = 0 → jc_M_crashes_2 D kk x1 (nI 0) σ) ∧
  (x1 = 0 → 
    (jaDe D) jy_M_ceases [.inr (.inr (70, 20, 0))] σ (jaKv fun σ1 =>
      jc_M_crashes_2 D kk x1 (nI 0) σ1))) :
  jaDe (D + 1) jy_M_crashes [.inr (.inr (70, 20, 0)), .inl x1] σ (jaKv kk) :=
  jaCall_intro (mt := jaMt) (y := jy_M_crashes) (f := jf_M_crashes) (ps := jp_M_crashes) (nL := 3) rfl rfl (jaRun_go (jaCall_self jaAr jaMt D) [2, 4] 11 _ _ _ _ h)
theorem jb_M_crashes_2 {D : Nat} {kk : jaT → Prop} {σ : jaT} {x1 : Int32} {x2 : Int32} (h :
  ((nI 10) ≤ x2 → jc_M_crashes_4 D kk x1 (nI 0) σ) ∧
  (¬ (nI 10) ≤ x2 → 
    vp_in ((nI 475) + x2) 706 ∧ (vp_in (((nI 145) + ((nI 10) * x1)) + x2) 706 ∧ 
    (let σ1 : jaT := jaU σ 20 (jaUI (σ 20) 72 0 (jaIx (((nI 145) + ((nI 10) * x1)) + x2)) ((σ 20).1 72 0 (jaIx ((nI 475) + x2))))
    jc_M_crashes_2 D kk x1 (x2 + (nI 1)) σ1)))) :
  jc_M_crashes_2 D kk x1 x2 σ :=
  jaRun_go (jaCall_self jaAr jaMt D) [2, 4] 24 _ _ _ _ h
set_option maxRecDepth 20000 in
theorem jb_M_crashes_4 {D : Nat} {kk : jaT → Prop} {σ : jaT} {x1 : Int32} {x2 : Int32} (h :
  ((nI 40) ≤ x2 → kk σ) ∧
  (¬ (nI 40) ≤ x2 → 
    vp_in (nI 40) 706 ∧ ((((σ 20).1 72 0 (jaIx (nI 40))) ≤ x2 → 
      vp_in (((nI 175) + ((nI 40) * x1)) + x2) 706 ∧ 
      (let σ1 : jaT := jaU σ 20 (jaUI (σ 20) 72 0 (jaIx (((nI 175) + ((nI 40) * x1)) + x2)) (nI 0))
      vp_in (((nI 295) + ((nI 40) * x1)) + x2) 706 ∧ 
      (let σ2 : jaT := jaU σ1 20 (jaUI (σ1 20) 72 0 (jaIx (((nI 295) + ((nI 40) * x1)) + x2)) (nI 0))
      jc_M_crashes_4 D kk x1 (x2 + (nI 1)) σ2))) ∧
    (¬ ((σ 20).1 72 0 (jaIx (nI 40))) ≤ x2 → 
      vp_in ((nI 485) + x2) 706 ∧ (vp_in (((nI 175) + ((nI 40) * x1)) + x2) 706 ∧ 
      (let σ3 : jaT := jaU σ 20 (jaUI (σ 20) 72 0 (jaIx (((nI 175) + ((nI 40) * x1)) + x2)) ((σ 20).1 72 0 (jaIx ((nI 485) + x2))))
      vp_in (((nI 295) + ((nI 40) * x1)) + x2) 706 ∧ 
      (let σ4 : jaT := jaU σ3 20 (jaUI (σ3 20) 72 0 (jaIx (((nI 295) + ((nI 40) * x1)) + x2)) (nI 0))
      jc_M_crashes_4 D kk x1 (x2 + (nI 1)) σ4))))))) :
  jc_M_crashes_4 D kk x1 x2 σ :=
  jaRun_go (jaCall_self jaAr jaMt D) [2, 4] 42 _ _ _ _ h
abbrev jm_M_put : jaM := (jf_M_put, jp_M_put, 3)
theorem js_M_put {D : Nat} {kk : Int32 → jaT → Prop} {σ : jaT} {x1 : Int32} {x2 : Int32} (h :
  let σ1 : jaT := jaU σ 20 (jaUI (σ 20) 70 0 0 (nI 0))
  (jaDe D) jy_M_isSite [.inr (.inr (70, 20, 0)), .inl x1] σ1 (jaKi fun r3 σ2 =>
    (r3 = 0 → kk (-1 : Int32) σ2) ∧
    (¬ r3 = 0 → 
      (jaDe D) jy_M_isTrans [.inr (.inr (70, 20, 0)), .inl x2] σ2 (jaKi fun r5 σ4 =>
        (¬ r5 = 0 → 
          vp_in (nI 32) 706 ∧ ((¬ ((σ4 20).1 72 0 (jaIx (nI 32))) = (nI 24) → 
            (jaDe D) jy_M_stores [.inr (.inr (70, 20, 0))] σ4 (jaKv fun σ6 =>
              (jaDe D) jy_M_putsTrans [.inr (.inr (70, 20, 0)), .inl x1, .inl x2] σ6 (jaKv fun σ7 =>
                kk (nI 0) σ7))) ∧
          (((σ4 20).1 72 0 (jaIx (nI 32))) = (nI 24) → kk (nI 1) σ4))) ∧
        (r5 = 0 → kk (-1 : Int32) σ4))))) :
  jaDe (D + 1) jy_M_put [.inr (.inr (70, 20, 0)), .inl x1, .inl x2] σ (jaKi kk) :=
  jaCall_intro (mt := jaMt) (y := jy_M_put) (f := jf_M_put) (ps := jp_M_put) (nL := 3) rfl rfl (jaRun_go (jaCall_self jaAr jaMt D) [] 28 _ _ _ _ h)
abbrev jm_M_check : jaM := (jf_M_check, jp_M_check, 1)
theorem js_M_check {D : Nat} {kk : Int32 → jaT → Prop} {σ : jaT}  (h :
  let σ1 : jaT := jaU σ 20 (jaUI (σ 20) 70 0 0 (nI 0))
  vp_in (nI 36) 706 ∧ ((¬ ((σ1 20).1 72 0 (jaIx (nI 36))) = (nI 1) → 
    (jaDe D) jy_M_stores [.inr (.inr (70, 20, 0))] σ1 (jaKv fun σ2 =>
      (jaDe D) jy_M_checks [.inr (.inr (70, 20, 0))] σ2 (jaKv fun σ3 =>
        kk (nI 0) σ3))) ∧
  (((σ1 20).1 72 0 (jaIx (nI 36))) = (nI 1) → kk (nI 1) σ1))) :
  jaDe (D + 1) jy_M_check [.inr (.inr (70, 20, 0))] σ (jaKi kk) :=
  jaCall_intro (mt := jaMt) (y := jy_M_check) (f := jf_M_check) (ps := jp_M_check) (nL := 1) rfl rfl (jaRun_go (jaCall_self jaAr jaMt D) [] 18 _ _ _ _ h)
abbrev jm_M_crash : jaM := (jf_M_crash, jp_M_crash, 2)
theorem js_M_crash {D : Nat} {kk : Int32 → jaT → Prop} {σ : jaT} {x1 : Int32} (h :
  let σ1 : jaT := jaU σ 20 (jaUI (σ 20) 70 0 0 (nI 0))
  (jaDe D) jy_M_isCopy [.inr (.inr (70, 20, 0)), .inl x1] σ1 (jaKi fun r3 σ2 =>
    (¬ r3 = 0 → 
      vp_in (nI 34) 706 ∧ ((¬ ((σ2 20).1 72 0 (jaIx (nI 34))) = 0 → 
        (jaDe D) jy_M_stores [.inr (.inr (70, 20, 0))] σ2 (jaKv fun σ4 =>
          (jaDe D) jy_M_crashes [.inr (.inr (70, 20, 0)), .inl x1] σ4 (jaKv fun σ5 =>
            kk (nI 0) σ5))) ∧
      (((σ2 20).1 72 0 (jaIx (nI 34))) = 0 → kk (nI 1) σ2))) ∧
    (r3 = 0 → kk (-1 : Int32) σ2))) :
  jaDe (D + 1) jy_M_crash [.inr (.inr (70, 20, 0)), .inl x1] σ (jaKi kk) :=
  jaCall_intro (mt := jaMt) (y := jy_M_crash) (f := jf_M_crash) (ps := jp_M_crash) (nL := 2) rfl rfl (jaRun_go (jaCall_self jaAr jaMt D) [] 22 _ _ _ _ h)
abbrev jm_M_ticks : jaM := (jf_M_ticks, jp_M_ticks, 2)
theorem js_M_ticks {D : Nat} {kk : Int32 → jaT → Prop} {σ : jaT} {x1 : Int32} (h :
  let σ1 : jaT := jaU σ 20 (jaUI (σ 20) 70 0 0 (nI 0))
  (jaDe D) jy_M_isIn [.inl x1, .inl (nI 1), .inl (nI 60)] σ1 (jaKi fun r3 σ2 =>
    (¬ r3 = 0 → 
      vp_in (nI 31) 706 ∧ ((¬ ((σ2 20).1 72 0 (jaIx (nI 31))) = (nI 1000) → 
        (jaDe D) jy_M_stores [.inr (.inr (70, 20, 0))] σ2 (jaKv fun σ4 =>
          (jaDe D) jy_M_goesOn [.inr (.inr (70, 20, 0)), .inl x1] σ4 (jaKi fun r6 σ5 =>
            kk r6 σ5))) ∧
      (((σ2 20).1 72 0 (jaIx (nI 31))) = (nI 1000) → kk (nI 0) σ2))) ∧
    (r3 = 0 → kk (-1 : Int32) σ2))) :
  jaDe (D + 1) jy_M_ticks [.inr (.inr (70, 20, 0)), .inl x1] σ (jaKi kk) :=
  jaCall_intro (mt := jaMt) (y := jy_M_ticks) (f := jf_M_ticks) (ps := jp_M_ticks) (nL := 2) rfl rfl (jaRun_go (jaCall_self jaAr jaMt D) [] 23 _ _ _ _ h)
abbrev jm_M_stores : jaM := (jf_M_stores, jp_M_stores, 2)
def jc_M_stores_1 (D : Nat) (kk : jaT → Prop) (x1 : Int32) (σ : jaT) : Prop := jaC (jaDe D) jm_M_stores (jaKv kk) 1 [some (.inr (.inr (70, 20, 0))), some (.inl x1)] [] σ
def jc_M_stores_4 (D : Nat) (kk : jaT → Prop) (x1 : Int32) (σ : jaT) : Prop := jaC (jaDe D) jm_M_stores (jaKv kk) 4 [some (.inr (.inr (70, 20, 0))), some (.inl x1)] [] σ
theorem js_M_stores {D : Nat} {kk : jaT → Prop} {σ : jaT}  (h :
  (¬ ((σ 20).1 70 0 33) = (nI 8) → jc_M_stores_4 D kk (nI 0) σ) ∧
  (((σ 20).1 70 0 33) = (nI 8) → jc_M_stores_1 D kk (nI 0) σ)) :
  jaDe (D + 1) jy_M_stores [.inr (.inr (70, 20, 0))] σ (jaKv kk) :=
  jaCall_intro (mt := jaMt) (y := jy_M_stores) (f := jf_M_stores) (ps := jp_M_stores) (nL := 2) rfl rfl (jaRun_go (jaCall_self jaAr jaMt D) [1, 4] 10 _ _ _ _ h)
theorem jb_M_stores_1 {D : Nat} {kk : jaT → Prop} {σ : jaT} {x1 : Int32} (h :
  ((nI 3458) ≤ x1 → 
    let σ1 : jaT := jaU σ 20 (jaUI (σ 20) 70 0 33 (nI 7))
    jc_M_stores_4 D kk (nI 0) σ1) ∧
  (¬ (nI 3458) ≤ x1 → 
    vp_in (x1 + (nI 494)) 3952 ∧ (vp_in x1 3952 ∧ 
    (let σ2 : jaT := jaU σ 20 (jaUI (σ 20) 83 0 (jaIx x1) ((σ 20).1 83 0 (jaIx (x1 + (nI 494)))))
    jc_M_stores_1 D kk (x1 + (nI 1)) σ2)))) :
  jc_M_stores_1 D kk x1 σ :=
  jaRun_go (jaCall_self jaAr jaMt D) [1, 4] 18 _ _ _ _ h
theorem jb_M_stores_4 {D : Nat} {kk : jaT → Prop} {σ : jaT} {x1 : Int32} (h :
  ((nI 494) ≤ x1 → 
    let σ1 : jaT := jaU σ 20 (jaUI (σ 20) 70 0 33 (((σ 20).1 70 0 33) + (nI 1)))
    kk σ1) ∧
  (¬ (nI 494) ≤ x1 → 
    vp_in ((nI 31) + x1) 706 ∧ (vp_in (((nI 494) * ((σ 20).1 70 0 33)) + x1) 3952 ∧ 
    (let σ2 : jaT := jaU σ 20 (jaUI (σ 20) 83 0 (jaIx (((nI 494) * ((σ 20).1 70 0 33)) + x1)) ((σ 20).1 72 0 (jaIx ((nI 31) + x1))))
    jc_M_stores_4 D kk (x1 + (nI 1)) σ2)))) :
  jc_M_stores_4 D kk x1 σ :=
  jaRun_go (jaCall_self jaAr jaMt D) [1, 4] 23 _ _ _ _ h
abbrev jm_M_undo : jaM := (jf_M_undo, jp_M_undo, 2)
def jc_M_undo_2 (D : Nat) (kk : Int32 → jaT → Prop) (x1 : Int32) (σ : jaT) : Prop := jaC (jaDe D) jm_M_undo (jaKi kk) 2 [some (.inr (.inr (70, 20, 0))), some (.inl x1)] [] σ
theorem js_M_undo {D : Nat} {kk : Int32 → jaT → Prop} {σ : jaT}  (h :
  let σ1 : jaT := jaU σ 20 (jaUI (σ 20) 70 0 0 (nI 0))
  (¬ ((σ1 20).1 70 0 33) = 0 → 
    let σ2 : jaT := jaU σ1 20 (jaUI (σ1 20) 70 0 33 (((σ1 20).1 70 0 33) - (nI 1)))
    jc_M_undo_2 D kk (nI 0) σ2) ∧
  (((σ1 20).1 70 0 33) = 0 → kk (-1 : Int32) σ1)) :
  jaDe (D + 1) jy_M_undo [.inr (.inr (70, 20, 0))] σ (jaKi kk) :=
  jaCall_intro (mt := jaMt) (y := jy_M_undo) (f := jf_M_undo) (ps := jp_M_undo) (nL := 2) rfl rfl (jaRun_go (jaCall_self jaAr jaMt D) [2] 18 _ _ _ _ h)
theorem jb_M_undo_2 {D : Nat} {kk : Int32 → jaT → Prop} {σ : jaT} {x1 : Int32} (h :
  ((nI 494) ≤ x1 → kk ((σ 20).1 70 0 33) σ) ∧
  (¬ (nI 494) ≤ x1 → 
    vp_in (((nI 494) * ((σ 20).1 70 0 33)) + x1) 3952 ∧ (vp_in ((nI 31) + x1) 706 ∧ 
    (let σ1 : jaT := jaU σ 20 (jaUI (σ 20) 72 0 (jaIx ((nI 31) + x1)) ((σ 20).1 83 0 (jaIx (((nI 494) * ((σ 20).1 70 0 33)) + x1))))
    jc_M_undo_2 D kk (x1 + (nI 1)) σ1)))) :
  jc_M_undo_2 D kk x1 σ :=
  jaRun_go (jaCall_self jaAr jaMt D) [2] 23 _ _ _ _ h
abbrev jm_M_tries : jaM := (jf_M_tries, jp_M_tries, 2)
def jc_M_tries_1 (D : Nat) (kk : jaT → Prop) (x1 : Int32) (σ : jaT) : Prop := jaC (jaDe D) jm_M_tries (jaKv kk) 1 [some (.inr (.inr (70, 20, 0))), some (.inl x1)] [] σ
theorem js_M_tries {D : Nat} {kk : jaT → Prop} {σ : jaT}  (h :
  jc_M_tries_1 D kk (nI 0) σ) :
  jaDe (D + 1) jy_M_tries [.inr (.inr (70, 20, 0))] σ (jaKv kk) :=
  jaCall_intro (mt := jaMt) (y := jy_M_tries) (f := jf_M_tries) (ps := jp_M_tries) (nL := 2) rfl rfl (jaRun_go (jaCall_self jaAr jaMt D) [1] 6 _ _ _ _ h)
theorem jb_M_tries_1 {D : Nat} {kk : jaT → Prop} {σ : jaT} {x1 : Int32} (h :
  ((nI 494) ≤ x1 → kk σ) ∧
  (¬ (nI 494) ≤ x1 → 
    vp_in ((nI 31) + x1) 706 ∧ (vp_in x1 494 ∧ 
    (let σ1 : jaT := jaU σ 20 (jaUI (σ 20) 84 0 (jaIx x1) ((σ 20).1 72 0 (jaIx ((nI 31) + x1))))
    jc_M_tries_1 D kk (x1 + (nI 1)) σ1)))) :
  jc_M_tries_1 D kk x1 σ :=
  jaRun_go (jaCall_self jaAr jaMt D) [1] 18 _ _ _ _ h
abbrev jm_M_brings : jaM := (jf_M_brings, jp_M_brings, 2)
def jc_M_brings_1 (D : Nat) (kk : jaT → Prop) (x1 : Int32) (σ : jaT) : Prop := jaC (jaDe D) jm_M_brings (jaKv kk) 1 [some (.inr (.inr (70, 20, 0))), some (.inl x1)] [] σ
theorem js_M_brings {D : Nat} {kk : jaT → Prop} {σ : jaT}  (h :
  jc_M_brings_1 D kk (nI 0) σ) :
  jaDe (D + 1) jy_M_brings [.inr (.inr (70, 20, 0))] σ (jaKv kk) :=
  jaCall_intro (mt := jaMt) (y := jy_M_brings) (f := jf_M_brings) (ps := jp_M_brings) (nL := 2) rfl rfl (jaRun_go (jaCall_self jaAr jaMt D) [1] 6 _ _ _ _ h)
theorem jb_M_brings_1 {D : Nat} {kk : jaT → Prop} {σ : jaT} {x1 : Int32} (h :
  ((nI 494) ≤ x1 → kk σ) ∧
  (¬ (nI 494) ≤ x1 → 
    vp_in x1 494 ∧ (vp_in ((nI 31) + x1) 706 ∧ 
    (let σ1 : jaT := jaU σ 20 (jaUI (σ 20) 72 0 (jaIx ((nI 31) + x1)) ((σ 20).1 84 0 (jaIx x1)))
    jc_M_brings_1 D kk (x1 + (nI 1)) σ1)))) :
  jc_M_brings_1 D kk x1 σ :=
  jaRun_go (jaCall_self jaAr jaMt D) [1] 18 _ _ _ _ h
abbrev jm_M_now : jaM := (jf_M_now, jp_M_now, 2)
theorem js_M_now {D : Nat} {kk : Int32 → jaT → Prop} {σ : jaT} {x1 : Int32} (h :
  let σ1 : jaT := jaU σ 20 (jaUI (σ 20) 70 0 0 (nI 0))
  (x1.toInt < 0 ∨ 8 < x1.toInt → kk (-1 : Int32) σ1) ∧
  (x1 = nI 0 → vp_in (nI 31) 706 ∧ kk ((σ1 20).1 72 0 (jaIx (nI 31))) σ1) ∧
  (x1 = nI 1 → vp_in (nI 32) 706 ∧ kk ((σ1 20).1 72 0 (jaIx (nI 32))) σ1) ∧
  (x1 = nI 2 → vp_in (nI 34) 706 ∧ kk ((σ1 20).1 72 0 (jaIx (nI 34))) σ1) ∧
  (x1 = nI 3 → vp_in (nI 35) 706 ∧ kk ((σ1 20).1 72 0 (jaIx (nI 35))) σ1) ∧
  (x1 = nI 4 → vp_in (nI 36) 706 ∧ kk ((σ1 20).1 72 0 (jaIx (nI 36))) σ1) ∧
  (x1 = nI 5 → 
    vp_in (nI 36) 706 ∧ ((¬ ((σ1 20).1 72 0 (jaIx (nI 36))) = (nI 1) → kk (-1 : Int32) σ1) ∧
    (((σ1 20).1 72 0 (jaIx (nI 36))) = (nI 1) → vp_in (nI 37) 706 ∧ kk ((σ1 20).1 72 0 (jaIx (nI 37))) σ1))) ∧
  (x1 = nI 6 → 
    vp_in (nI 38) 706 ∧ kk (((nI 1) <<< (((σ1 20).1 72 0 (jaIx (nI 38))) &&& 31)) - (nI 1)) σ1) ∧
  (x1 = nI 7 → vp_in (nI 39) 706 ∧ kk ((σ1 20).1 72 0 (jaIx (nI 39))) σ1) ∧
  (x1 = nI 8 → vp_in (nI 40) 706 ∧ kk ((σ1 20).1 72 0 (jaIx (nI 40))) σ1) ∧ True) :
  jaDe (D + 1) jy_M_now [.inr (.inr (70, 20, 0)), .inl x1] σ (jaKi kk) :=
  jaCall_intro (mt := jaMt) (y := jy_M_now) (f := jf_M_now) (ps := jp_M_now) (nL := 2) rfl rfl (jaRun_go (jaCall_self jaAr jaMt D) [] 20 _ _ _ _ h)
abbrev jm_M_value : jaM := (jf_M_value, jp_M_value, 3)
theorem js_M_value {D : Nat} {kk : Int32 → jaT → Prop} {σ : jaT} {x1 : Int32} {x2 : Int32} (h :
  (jaDe D) jy_M_isCopy [.inr (.inr (70, 20, 0)), .inl x1] σ (jaKi fun r2 σ1 =>
    (r2 = 0 → 
      (jaDe D) jy_M_throwsIf [.inr (.inr (70, 20, 0)), .inl (nI 1)] σ1 (jaKi fun r4 σ3 =>
        (r4 = 0 → 
          vp_in (((nI 145) + ((nI 10) * x1)) + x2) 706 ∧ kk ((σ3 20).1 72 0 (jaIx (((nI 145) + ((nI 10) * x1)) + x2))) σ3) ∧
        (¬ r4 = 0 → kk (nI 0) σ3))) ∧
    (¬ r2 = 0 → 
      (jaDe D) jy_M_isKey [.inr (.inr (70, 20, 0)), .inl x2] σ1 (jaKi fun r6 σ5 =>
        (¬ r6 = 0 → 
          (jaDe D) jy_M_throwsIf [.inr (.inr (70, 20, 0)), .inl (nI 0)] σ5 (jaKi fun r8 σ7 =>
            (r8 = 0 → 
              vp_in (((nI 145) + ((nI 10) * x1)) + x2) 706 ∧ kk ((σ7 20).1 72 0 (jaIx (((nI 145) + ((nI 10) * x1)) + x2))) σ7) ∧
            (¬ r8 = 0 → kk (nI 0) σ7))) ∧
        (r6 = 0 → 
          (jaDe D) jy_M_throwsIf [.inr (.inr (70, 20, 0)), .inl (nI 1)] σ5 (jaKi fun r10 σ9 =>
            (r10 = 0 → 
              vp_in (((nI 145) + ((nI 10) * x1)) + x2) 706 ∧ kk ((σ9 20).1 72 0 (jaIx (((nI 145) + ((nI 10) * x1)) + x2))) σ9) ∧
            (¬ r10 = 0 → kk (nI 0) σ9))))))) :
  jaDe (D + 1) jy_M_value [.inr (.inr (70, 20, 0)), .inl x1, .inl x2] σ (jaKi kk) :=
  jaCall_intro (mt := jaMt) (y := jy_M_value) (f := jf_M_value) (ps := jp_M_value) (nL := 3) rfl rfl (jaRun_go (jaCall_self jaAr jaMt D) [] 28 _ _ _ _ h)
abbrev jm_M_key : jaM := (jf_M_key, jp_M_key, 3)
set_option maxRecDepth 20000 in
theorem js_M_key {D : Nat} {kk : Int32 → jaT → Prop} {σ : jaT} {x1 : Int32} {x2 : Int32} (h :
  (jaDe D) jy_M_isKey [.inr (.inr (70, 20, 0)), .inl x1] σ (jaKi fun r2 σ1 =>
    (r2 = 0 → 
      (jaDe D) jy_M_throwsIf [.inr (.inr (70, 20, 0)), .inl (nI 1)] σ1 (jaKi fun r4 σ3 =>
        (r4 = 0 → 
          (¬ x2 = 0 → 
            (¬ x2 = (nI 1) → 
              (¬ x2 = (nI 2) → 
                vp_in ((nI 455) + x1) 706 ∧ kk ((σ3 20).1 72 0 (jaIx ((nI 455) + x1))) σ3) ∧
              (x2 = (nI 2) → 
                vp_in ((nI 475) + x1) 706 ∧ kk ((σ3 20).1 72 0 (jaIx ((nI 475) + x1))) σ3)) ∧
            (x2 = (nI 1) → 
              vp_in ((nI 15) + x1) 706 ∧ kk ((σ3 20).1 72 0 (jaIx ((nI 15) + x1))) σ3)) ∧
          (x2 = 0 → 
            vp_in ((nI 5) + x1) 706 ∧ kk ((σ3 20).1 72 0 (jaIx ((nI 5) + x1))) σ3)) ∧
        (¬ r4 = 0 → kk (nI 0) σ3))) ∧
    (¬ r2 = 0 → 
      (jaDe D) jy_M_isIn [.inl x2, .inl (nI 0), .inl (nI 3)] σ1 (jaKi fun r6 σ5 =>
        (r6 = 0 → 
          (jaDe D) jy_M_throwsIf [.inr (.inr (70, 20, 0)), .inl (nI 1)] σ5 (jaKi fun r8 σ7 =>
            (r8 = 0 → 
              (¬ x2 = 0 → 
                (¬ x2 = (nI 1) → 
                  (¬ x2 = (nI 2) → 
                    vp_in ((nI 455) + x1) 706 ∧ kk ((σ7 20).1 72 0 (jaIx ((nI 455) + x1))) σ7) ∧
                  (x2 = (nI 2) → 
                    vp_in ((nI 475) + x1) 706 ∧ kk ((σ7 20).1 72 0 (jaIx ((nI 475) + x1))) σ7)) ∧
                (x2 = (nI 1) → 
                  vp_in ((nI 15) + x1) 706 ∧ kk ((σ7 20).1 72 0 (jaIx ((nI 15) + x1))) σ7)) ∧
              (x2 = 0 → 
                vp_in ((nI 5) + x1) 706 ∧ kk ((σ7 20).1 72 0 (jaIx ((nI 5) + x1))) σ7)) ∧
            (¬ r8 = 0 → kk (nI 0) σ7))) ∧
        (¬ r6 = 0 → 
          (¬ x2 = (nI 3) → 
            (jaDe D) jy_M_throwsIf [.inr (.inr (70, 20, 0)), .inl (nI 0)] σ5 (jaKi fun r10 σ9 =>
              (r10 = 0 → 
                (¬ x2 = 0 → 
                  (¬ x2 = (nI 1) → 
                    (¬ x2 = (nI 2) → 
                      vp_in ((nI 455) + x1) 706 ∧ kk ((σ9 20).1 72 0 (jaIx ((nI 455) + x1))) σ9) ∧
                    (x2 = (nI 2) → 
                      vp_in ((nI 475) + x1) 706 ∧ kk ((σ9 20).1 72 0 (jaIx ((nI 475) + x1))) σ9)) ∧
                  (x2 = (nI 1) → 
                    vp_in ((nI 15) + x1) 706 ∧ kk ((σ9 20).1 72 0 (jaIx ((nI 15) + x1))) σ9)) ∧
                (x2 = 0 → 
                  vp_in ((nI 5) + x1) 706 ∧ kk ((σ9 20).1 72 0 (jaIx ((nI 5) + x1))) σ9)) ∧
              (¬ r10 = 0 → kk (nI 0) σ9))) ∧
          (x2 = (nI 3) → 
            vp_in (nI 39) 706 ∧ ((jaDe D) jy_M_bitOf [.inl ((σ5 20).1 72 0 (jaIx (nI 39))), .inl x1] σ5 (jaKi fun r12 σ11 =>
              (¬ r12 = 0 → 
                (jaDe D) jy_M_throwsIf [.inr (.inr (70, 20, 0)), .inl (nI 0)] σ11 (jaKi fun r14 σ13 =>
                  (r14 = 0 → 
                    (¬ x2 = 0 → 
                      (¬ x2 = (nI 1) → 
                        (¬ x2 = (nI 2) → 
                          vp_in ((nI 455) + x1) 706 ∧ kk ((σ13 20).1 72 0 (jaIx ((nI 455) + x1))) σ13) ∧
                        (x2 = (nI 2) → 
                          vp_in ((nI 475) + x1) 706 ∧ kk ((σ13 20).1 72 0 (jaIx ((nI 475) + x1))) σ13)) ∧
                      (x2 = (nI 1) → 
                        vp_in ((nI 15) + x1) 706 ∧ kk ((σ13 20).1 72 0 (jaIx ((nI 15) + x1))) σ13)) ∧
                    (x2 = 0 → 
                      vp_in ((nI 5) + x1) 706 ∧ kk ((σ13 20).1 72 0 (jaIx ((nI 5) + x1))) σ13)) ∧
                  (¬ r14 = 0 → kk (nI 0) σ13))) ∧
              (r12 = 0 → 
                (jaDe D) jy_M_throwsIf [.inr (.inr (70, 20, 0)), .inl (nI 1)] σ11 (jaKi fun r16 σ15 =>
                  (r16 = 0 → 
                    (¬ x2 = 0 → 
                      (¬ x2 = (nI 1) → 
                        (¬ x2 = (nI 2) → 
                          vp_in ((nI 455) + x1) 706 ∧ kk ((σ15 20).1 72 0 (jaIx ((nI 455) + x1))) σ15) ∧
                        (x2 = (nI 2) → 
                          vp_in ((nI 475) + x1) 706 ∧ kk ((σ15 20).1 72 0 (jaIx ((nI 475) + x1))) σ15)) ∧
                      (x2 = (nI 1) → 
                        vp_in ((nI 15) + x1) 706 ∧ kk ((σ15 20).1 72 0 (jaIx ((nI 15) + x1))) σ15)) ∧
                    (x2 = 0 → 
                      vp_in ((nI 5) + x1) 706 ∧ kk ((σ15 20).1 72 0 (jaIx ((nI 5) + x1))) σ15)) ∧
                  (¬ r16 = 0 → kk (nI 0) σ15))))))))))) :
  jaDe (D + 1) jy_M_key [.inr (.inr (70, 20, 0)), .inl x1, .inl x2] σ (jaKi kk) :=
  jaCall_intro (mt := jaMt) (y := jy_M_key) (f := jf_M_key) (ps := jp_M_key) (nL := 3) rfl rfl (jaRun_go (jaCall_self jaAr jaMt D) [] 44 _ _ _ _ h)
abbrev jm_M_entriesOf : jaM := (jf_M_entriesOf, jp_M_entriesOf, 4)
def jc_M_entriesOf_1 (D : Nat) (kk : Int32 → jaT → Prop) (x1 : Int32) (x2 : Int32) (x3 : Int32) (σ : jaT) : Prop := jaC (jaDe D) jm_M_entriesOf (jaKi kk) 1 [some (.inr (.inr (70, 20, 0))), some (.inl x1), some (.inl x2), some (.inl x3)] [] σ
theorem js_M_entriesOf {D : Nat} {kk : Int32 → jaT → Prop} {σ : jaT} {x1 : Int32} (h :
  jc_M_entriesOf_1 D kk x1 (nI 0) (nI 0) σ) :
  jaDe (D + 1) jy_M_entriesOf [.inr (.inr (70, 20, 0)), .inl x1] σ (jaKi kk) :=
  jaCall_intro (mt := jaMt) (y := jy_M_entriesOf) (f := jf_M_entriesOf) (ps := jp_M_entriesOf) (nL := 4) rfl rfl (jaRun_go (jaCall_self jaAr jaMt D) [1] 8 _ _ _ _ h)
theorem jb_M_entriesOf_1 {D : Nat} {kk : Int32 → jaT → Prop} {σ : jaT} {x1 : Int32} {x2 : Int32} {x3 : Int32} (h :
  vp_in (nI 33) 706 ∧ ((((σ 20).1 72 0 (jaIx (nI 33))) ≤ x3 → kk x2 σ) ∧
  (¬ ((σ 20).1 72 0 (jaIx (nI 33))) ≤ x3 → 
    vp_in ((nI 9) * x3) 576 ∧ ((¬ ((σ 20).1 76 0 (jaIx ((nI 9) * x3))) = x1 → jc_M_entriesOf_1 D kk x1 (x2 + (nI 0)) (x3 + (nI 1)) σ) ∧
    (((σ 20).1 76 0 (jaIx ((nI 9) * x3))) = x1 → jc_M_entriesOf_1 D kk x1 (x2 + (nI 1)) (x3 + (nI 1)) σ))))) :
  jc_M_entriesOf_1 D kk x1 x2 x3 σ :=
  jaRun_go (jaCall_self jaAr jaMt D) [1] 24 _ _ _ _ h
abbrev jm_M_trans : jaM := (jf_M_trans, jp_M_trans, 5)
def jc_M_trans_2 (D : Nat) (kk : Int32 → jaT → Prop) (x1 : Int32) (x2 : Int32) (x3 : Int32) (x4 : Int32) (σ : jaT) : Prop := jaC (jaDe D) jm_M_trans (jaKi kk) 2 [some (.inr (.inr (70, 20, 0))), some (.inl x1), some (.inl x2), some (.inl x3), some (.inl x4)] [] σ
theorem js_M_trans {D : Nat} {kk : Int32 → jaT → Prop} {σ : jaT} {x1 : Int32} {x2 : Int32} (h :
  let σ1 : jaT := jaU σ 20 (jaUI (σ 20) 70 0 0 (nI 0))
  (jaDe D) jy_M_isTrans [.inr (.inr (70, 20, 0)), .inl x1] σ1 (jaKi fun r3 σ2 =>
    (¬ r3 = 0 → jc_M_trans_2 D kk x1 x2 (-1 : Int32) (nI 0) σ2) ∧
    (r3 = 0 → kk (-1 : Int32) σ2))) :
  jaDe (D + 1) jy_M_trans [.inr (.inr (70, 20, 0)), .inl x1, .inl x2] σ (jaKi kk) :=
  jaCall_intro (mt := jaMt) (y := jy_M_trans) (f := jf_M_trans) (ps := jp_M_trans) (nL := 5) rfl rfl (jaRun_go (jaCall_self jaAr jaMt D) [2] 15 _ _ _ _ h)
theorem jb_M_trans_2 {D : Nat} {kk : Int32 → jaT → Prop} {σ : jaT} {x1 : Int32} {x2 : Int32} {x3 : Int32} {x4 : Int32} (h :
  vp_in (nI 34) 706 ∧ ((((σ 20).1 72 0 (jaIx (nI 34))) ≤ x4 → 
    (x2.toInt < 0 ∨ 4 < x2.toInt → kk (-1 : Int32) σ) ∧
    (x2 = nI 0 → 
      vp_in ((nI 133) * x1) 3192 ∧ kk ((σ 20).1 75 0 (jaIx ((nI 133) * x1))) σ) ∧
    (x2 = nI 1 → 
      vp_in (((nI 133) * x1) + (nI 1)) 3192 ∧ kk ((σ 20).1 75 0 (jaIx (((nI 133) * x1) + (nI 1)))) σ) ∧
    (x2 = nI 2 → 
      (jaDe D) jy_M_entriesOf [.inr (.inr (70, 20, 0)), .inl x1] σ (jaKi fun r2 σ1 =>
        kk r2 σ1)) ∧
    (x2 = nI 3 → kk x3 σ) ∧
    (x2 = nI 4 → 
      vp_in (((nI 133) * x1) + (nI 2)) 3192 ∧ kk ((σ 20).1 75 0 (jaIx (((nI 133) * x1) + (nI 2)))) σ) ∧ True) ∧
  (¬ ((σ 20).1 72 0 (jaIx (nI 34))) ≤ x4 → 
    (jaDe D) jy_M_idAt [.inr (.inr (70, 20, 0)), .inl x4] σ (jaKi fun r4 σ3 =>
      vp_in ((nI 9) * r4) 576 ∧ ((¬ ((σ3 20).1 76 0 (jaIx ((nI 9) * r4))) = x1 → jc_M_trans_2 D kk x1 x2 x3 (x4 + (nI 1)) σ3) ∧
      (((σ3 20).1 76 0 (jaIx ((nI 9) * r4))) = x1 → jc_M_trans_2 D kk x1 x2 x4 (x4 + (nI 1)) σ3)))))) :
  jc_M_trans_2 D kk x1 x2 x3 x4 σ :=
  jaRun_go (jaCall_self jaAr jaMt D) [2] 24 _ _ _ _ h
abbrev jm_M_arrived : jaM := (jf_M_arrived, jp_M_arrived, 5)
def jc_M_arrived_2 (D : Nat) (kk : Int32 → jaT → Prop) (x1 : Int32) (x2 : Int32) (x3 : Int32) (x4 : Int32) (σ : jaT) : Prop := jaC (jaDe D) jm_M_arrived (jaKi kk) 2 [some (.inr (.inr (70, 20, 0))), some (.inl x1), some (.inl x2), some (.inl x3), some (.inl x4)] [] σ
theorem js_M_arrived {D : Nat} {kk : Int32 → jaT → Prop} {σ : jaT} {x1 : Int32} {x2 : Int32} (h :
  let σ1 : jaT := jaU σ 20 (jaUI (σ 20) 70 0 0 (nI 0))
  (jaDe D) jy_M_isSite [.inr (.inr (70, 20, 0)), .inl x1] σ1 (jaKi fun r3 σ2 =>
    (¬ r3 = 0 → jc_M_arrived_2 D kk x1 x2 (nI 0) (nI 0) σ2) ∧
    (r3 = 0 → kk (-1 : Int32) σ2))) :
  jaDe (D + 1) jy_M_arrived [.inr (.inr (70, 20, 0)), .inl x1, .inl x2] σ (jaKi kk) :=
  jaCall_intro (mt := jaMt) (y := jy_M_arrived) (f := jf_M_arrived) (ps := jp_M_arrived) (nL := 5) rfl rfl (jaRun_go (jaCall_self jaAr jaMt D) [2] 15 _ _ _ _ h)
theorem jb_M_arrived_2 {D : Nat} {kk : Int32 → jaT → Prop} {σ : jaT} {x1 : Int32} {x2 : Int32} {x3 : Int32} {x4 : Int32} (h :
  vp_in (nI 35) 706 ∧ ((((σ 20).1 72 0 (jaIx (nI 35))) ≤ x4 → kk (-1 : Int32) σ) ∧
  (¬ ((σ 20).1 72 0 (jaIx (nI 35))) ≤ x4 → 
    vp_in ((nI 81) + x4) 706 ∧ (vp_in (((nI 9) * ((σ 20).1 72 0 (jaIx ((nI 81) + x4)))) + (nI 1)) 576 ∧ ((((σ 20).1 76 0 (jaIx (((nI 9) * ((σ 20).1 72 0 (jaIx ((nI 81) + x4)))) + (nI 1)))) = x1 → 
      (¬ x3 = x2 → jc_M_arrived_2 D kk x1 x2 (x3 + (nI 1)) (x4 + (nI 1)) σ) ∧
      (x3 = x2 → 
        vp_in ((nI 81) + x4) 706 ∧ (vp_in ((nI 9) * ((σ 20).1 72 0 (jaIx ((nI 81) + x4)))) 576 ∧ kk ((σ 20).1 76 0 (jaIx ((nI 9) * ((σ 20).1 72 0 (jaIx ((nI 81) + x4)))))) σ))) ∧
    (¬ ((σ 20).1 76 0 (jaIx (((nI 9) * ((σ 20).1 72 0 (jaIx ((nI 81) + x4)))) + (nI 1)))) = x1 → jc_M_arrived_2 D kk x1 x2 x3 (x4 + (nI 1)) σ)))))) :
  jc_M_arrived_2 D kk x1 x2 x3 x4 σ :=
  jaRun_go (jaCall_self jaAr jaMt D) [2] 39 _ _ _ _ h
abbrev jm_M_entry : jaM := (jf_M_entry, jp_M_entry, 5)
def jc_M_entry_2 (D : Nat) (kk : Int32 → jaT → Prop) (x1 : Int32) (x2 : Int32) (x3 : Int32) (x4 : Int32) (σ : jaT) : Prop := jaC (jaDe D) jm_M_entry (jaKi kk) 2 [some (.inr (.inr (70, 20, 0))), some (.inl x1), some (.inl x2), some (.inl x3), some (.inl x4)] [] σ
theorem js_M_entry {D : Nat} {kk : Int32 → jaT → Prop} {σ : jaT} {x1 : Int32} {x2 : Int32} (h :
  let σ1 : jaT := jaU σ 20 (jaUI (σ 20) 70 0 0 (nI 0))
  (jaDe D) jy_M_isEntry [.inr (.inr (70, 20, 0)), .inl x1] σ1 (jaKi fun r3 σ2 =>
    (¬ r3 = 0 → jc_M_entry_2 D kk x1 x2 (nI 0) (nI 0) σ2) ∧
    (r3 = 0 → kk (-1 : Int32) σ2))) :
  jaDe (D + 1) jy_M_entry [.inr (.inr (70, 20, 0)), .inl x1, .inl x2] σ (jaKi kk) :=
  jaCall_intro (mt := jaMt) (y := jy_M_entry) (f := jf_M_entry) (ps := jp_M_entry) (nL := 5) rfl rfl (jaRun_go (jaCall_self jaAr jaMt D) [2] 15 _ _ _ _ h)
theorem jb_M_entry_2 {D : Nat} {kk : Int32 → jaT → Prop} {σ : jaT} {x1 : Int32} {x2 : Int32} {x3 : Int32} {x4 : Int32} (h :
  (x1 ≤ x4 → 
    (jaDe D) jy_M_isIn [.inl x2, .inl (nI 0), .inl (nI 4)] σ (jaKi fun r2 σ1 =>
      (r2 = 0 → 
        (¬ x2 = (nI 5) → kk (-1 : Int32) σ1) ∧
        (x2 = (nI 5) → kk x3 σ1)) ∧
      (¬ r2 = 0 → 
        (jaDe D) jy_M_idAt [.inr (.inr (70, 20, 0)), .inl x1] σ1 (jaKi fun r4 σ3 =>
          vp_in (((nI 9) * r4) + x2) 576 ∧ kk ((σ3 20).1 76 0 (jaIx (((nI 9) * r4) + x2))) σ3)))) ∧
  (¬ x1 ≤ x4 → 
    (jaDe D) jy_M_areConflict [.inr (.inr (70, 20, 0)), .inl x1, .inl x4] σ (jaKi fun r6 σ5 =>
      (r6 = 0 → jc_M_entry_2 D kk x1 x2 (x3 + (nI 0)) (x4 + (nI 1)) σ5) ∧
      (¬ r6 = 0 → jc_M_entry_2 D kk x1 x2 (x3 + (nI 1)) (x4 + (nI 1)) σ5)))) :
  jc_M_entry_2 D kk x1 x2 x3 x4 σ :=
  jaRun_go (jaCall_self jaAr jaMt D) [2] 23 _ _ _ _ h
abbrev jm_M_how : jaM := (jf_M_how, jp_M_how, 3)
theorem js_M_how {D : Nat} {kk : Int32 → jaT → Prop} {σ : jaT} {x1 : Int32} {x2 : Int32} (h :
  let σ1 : jaT := jaU σ 20 (jaUI (σ 20) 70 0 0 (nI 0))
  (jaDe D) jy_M_isCopy [.inr (.inr (70, 20, 0)), .inl x1] σ1 (jaKi fun r3 σ2 =>
    (r3 = 0 → kk (-1 : Int32) σ2) ∧
    (¬ r3 = 0 → 
      (jaDe D) jy_M_isEntry [.inr (.inr (70, 20, 0)), .inl x2] σ2 (jaKi fun r5 σ4 =>
        (r5 = 0 → kk (-1 : Int32) σ4) ∧
        (¬ r5 = 0 → 
          (jaDe D) jy_M_howIn [.inr (.inr (70, 20, 0)), .inl x1, .inl x2] σ4 (jaKi fun r7 σ6 =>
            kk r7 σ6)))))) :
  jaDe (D + 1) jy_M_how [.inr (.inr (70, 20, 0)), .inl x1, .inl x2] σ (jaKi kk) :=
  jaCall_intro (mt := jaMt) (y := jy_M_how) (f := jf_M_how) (ps := jp_M_how) (nL := 3) rfl rfl (jaRun_go (jaCall_self jaAr jaMt D) [] 20 _ _ _ _ h)
abbrev jm_M_foreseen : jaM := (jf_M_foreseen, jp_M_foreseen, 3)
set_option maxRecDepth 20000 in
theorem js_M_foreseen {D : Nat} {kk : Int32 → jaT → Prop} {σ : jaT} {x1 : Int32} {x2 : Int32} (h :
  let σ1 : jaT := jaU σ 20 (jaUI (σ 20) 70 0 0 (nI 0))
  (jaDe D) jy_M_isEntry [.inr (.inr (70, 20, 0)), .inl x1] σ1 (jaKi fun r3 σ2 =>
    (r3 = 0 → kk (-1 : Int32) σ2) ∧
    (¬ r3 = 0 → 
      (jaDe D) jy_M_idAt [.inr (.inr (70, 20, 0)), .inl x1] σ2 (jaKi fun r5 σ4 =>
        vp_in ((nI 9) * r5) 576 ∧ (vp_in (((nI 133) * ((σ4 20).1 76 0 (jaIx ((nI 9) * r5)))) + (nI 2)) 3192 ∧ ((jaDe D) jy_M_isIn [.inl x2, .inl (nI 0), .inl (((σ4 20).1 75 0 (jaIx (((nI 133) * ((σ4 20).1 76 0 (jaIx ((nI 9) * r5)))) + (nI 2)))) - (nI 1))] σ4 (jaKi fun r7 σ6 =>
          (¬ r7 = 0 → 
            (jaDe D) jy_M_idAt [.inr (.inr (70, 20, 0)), .inl x1] σ6 (jaKi fun r9 σ8 =>
              vp_in ((((nI 9) * r9) + (nI 5)) + x2) 576 ∧ kk ((σ8 20).1 76 0 (jaIx ((((nI 9) * r9) + (nI 5)) + x2))) σ8)) ∧
          (r7 = 0 → kk (-1 : Int32) σ6)))))))) :
  jaDe (D + 1) jy_M_foreseen [.inr (.inr (70, 20, 0)), .inl x1, .inl x2] σ (jaKi kk) :=
  jaCall_intro (mt := jaMt) (y := jy_M_foreseen) (f := jf_M_foreseen) (ps := jp_M_foreseen) (nL := 3) rfl rfl (jaRun_go (jaCall_self jaAr jaMt D) [] 44 _ _ _ _ h)
abbrev jm_M_asks : jaM := (jf_M_asks, jp_M_asks, 6)
def jc_M_asks_3 (D : Nat) (kk : Int32 → jaT → Prop) (x1 : Int32) (x2 : Int32) (x3 : Int32) (x4 : Int32) (x5 : Int32) (σ : jaT) : Prop := jaC (jaDe D) jm_M_asks (jaKi kk) 3 [some (.inr (.inr (70, 20, 0))), some (.inl x1), some (.inl x2), some (.inl x3), some (.inl x4), some (.inl x5)] [] σ
theorem js_M_asks {D : Nat} {kk : Int32 → jaT → Prop} {σ : jaT} {x1 : Int32} {x2 : Int32} {x3 : Int32} (h :
  let σ1 : jaT := jaU σ 20 (jaUI (σ 20) 70 0 0 (nI 0))
  (jaDe D) jy_M_isCopy [.inr (.inr (70, 20, 0)), .inl x1] σ1 (jaKi fun r3 σ2 =>
    (r3 = 0 → kk (-1 : Int32) σ2) ∧
    (¬ r3 = 0 → 
      (jaDe D) jy_M_isKey [.inr (.inr (70, 20, 0)), .inl x2] σ2 (jaKi fun r5 σ4 =>
        (¬ r5 = 0 → jc_M_asks_3 D kk x1 x2 x3 (nI 0) (nI 0) σ4) ∧
        (r5 = 0 → kk (-1 : Int32) σ4))))) :
  jaDe (D + 1) jy_M_asks [.inr (.inr (70, 20, 0)), .inl x1, .inl x2, .inl x3] σ (jaKi kk) :=
  jaCall_intro (mt := jaMt) (y := jy_M_asks) (f := jf_M_asks) (ps := jp_M_asks) (nL := 6) rfl rfl (jaRun_go (jaCall_self jaAr jaMt D) [3] 19 _ _ _ _ h)
set_option maxRecDepth 20000 in
theorem jb_M_asks_3 {D : Nat} {kk : Int32 → jaT → Prop} {σ : jaT} {x1 : Int32} {x2 : Int32} {x3 : Int32} {x4 : Int32} {x5 : Int32} (h :
  vp_in (nI 34) 706 ∧ ((((σ 20).1 72 0 (jaIx (nI 34))) ≤ x5 → kk (-1 : Int32) σ) ∧
  (¬ ((σ 20).1 72 0 (jaIx (nI 34))) ≤ x5 → 
    (jaDe D) jy_M_isOver [.inr (.inr (70, 20, 0)), .inl x1, .inl x5] σ (jaKi fun r2 σ1 =>
      (¬ r2 = 0 → jc_M_asks_3 D kk x1 x2 x3 x4 (x5 + (nI 1)) σ1) ∧
      (r2 = 0 → 
        (jaDe D) jy_M_readsOf [.inr (.inr (70, 20, 0)), .inl x5] σ1 (jaKi fun r4 σ3 =>
          (jaDe D) jy_M_writesOf [.inr (.inr (70, 20, 0)), .inl x5] σ3 (jaKi fun r6 σ5 =>
            (jaDe D) jy_M_bitOf [.inl (r4 ||| r6), .inl x2] σ5 (jaKi fun r8 σ7 =>
              (¬ r8 = 0 → 
                (¬ x4 = x3 → jc_M_asks_3 D kk x1 x2 x3 (x4 + (nI 1)) (x5 + (nI 1)) σ7) ∧
                (x4 = x3 → 
                  (jaDe D) jy_M_writesOf [.inr (.inr (70, 20, 0)), .inl x5] σ7 (jaKi fun r10 σ9 =>
                    (jaDe D) jy_M_bitOf [.inl r10, .inl x2] σ9 (jaKi fun r12 σ11 =>
                      (r12 = 0 → kk (((nI 2) * x5) + (nI 0)) σ11) ∧
                      (¬ r12 = 0 → kk (((nI 2) * x5) + (nI 1)) σ11))))) ∧
              (r8 = 0 → jc_M_asks_3 D kk x1 x2 x3 x4 (x5 + (nI 1)) σ7))))))))) :
  jc_M_asks_3 D kk x1 x2 x3 x4 x5 σ :=
  jaRun_go (jaCall_self jaAr jaMt D) [3] 40 _ _ _ _ h
abbrev jm_M_ready : jaM := (jf_M_ready, jp_M_ready, 5)
def jc_M_ready_2 (D : Nat) (kk : Int32 → jaT → Prop) (x1 : Int32) (x2 : Int32) (x3 : Int32) (x4 : Int32) (σ : jaT) : Prop := jaC (jaDe D) jm_M_ready (jaKi kk) 2 [some (.inr (.inr (70, 20, 0))), some (.inl x1), some (.inl x2), some (.inl x3), some (.inl x4)] [] σ
theorem js_M_ready {D : Nat} {kk : Int32 → jaT → Prop} {σ : jaT} {x1 : Int32} {x2 : Int32} (h :
  let σ1 : jaT := jaU σ 20 (jaUI (σ 20) 70 0 0 (nI 0))
  (jaDe D) jy_M_isCopy [.inr (.inr (70, 20, 0)), .inl x1] σ1 (jaKi fun r3 σ2 =>
    (¬ r3 = 0 → jc_M_ready_2 D kk x1 x2 (nI 0) (nI 0) σ2) ∧
    (r3 = 0 → kk (-1 : Int32) σ2))) :
  jaDe (D + 1) jy_M_ready [.inr (.inr (70, 20, 0)), .inl x1, .inl x2] σ (jaKi kk) :=
  jaCall_intro (mt := jaMt) (y := jy_M_ready) (f := jf_M_ready) (ps := jp_M_ready) (nL := 5) rfl rfl (jaRun_go (jaCall_self jaAr jaMt D) [2] 15 _ _ _ _ h)
theorem jb_M_ready_2 {D : Nat} {kk : Int32 → jaT → Prop} {σ : jaT} {x1 : Int32} {x2 : Int32} {x3 : Int32} {x4 : Int32} (h :
  vp_in (nI 34) 706 ∧ ((((σ 20).1 72 0 (jaIx (nI 34))) ≤ x4 → kk (-1 : Int32) σ) ∧
  (¬ ((σ 20).1 72 0 (jaIx (nI 34))) ≤ x4 → 
    (jaDe D) jy_M_isReady [.inr (.inr (70, 20, 0)), .inl x1, .inl x4] σ (jaKi fun r2 σ1 =>
      (¬ r2 = 0 → 
        (¬ x3 = x2 → jc_M_ready_2 D kk x1 x2 (x3 + (nI 1)) (x4 + (nI 1)) σ1) ∧
        (x3 = x2 → kk x4 σ1)) ∧
      (r2 = 0 → jc_M_ready_2 D kk x1 x2 x3 (x4 + (nI 1)) σ1))))) :
  jc_M_ready_2 D kk x1 x2 x3 x4 σ :=
  jaRun_go (jaCall_self jaAr jaMt D) [2] 21 _ _ _ _ h
abbrev jm_M_waits : jaM := (jf_M_waits, jp_M_waits, 3)
theorem js_M_waits {D : Nat} {kk : Int32 → jaT → Prop} {σ : jaT} {x1 : Int32} {x2 : Int32} (h :
  let σ1 : jaT := jaU σ 20 (jaUI (σ 20) 70 0 0 (nI 0))
  (jaDe D) jy_M_isCopy [.inr (.inr (70, 20, 0)), .inl x1] σ1 (jaKi fun r3 σ2 =>
    (r3 = 0 → kk (-1 : Int32) σ2) ∧
    (¬ r3 = 0 → 
      (jaDe D) jy_M_isEntry [.inr (.inr (70, 20, 0)), .inl x2] σ2 (jaKi fun r5 σ4 =>
        (¬ r5 = 0 → 
          (jaDe D) jy_M_howIn [.inr (.inr (70, 20, 0)), .inl x1, .inl x2] σ4 (jaKi fun r7 σ6 =>
            (¬ r7 = 0 → kk (nI 0) σ6) ∧
            (r7 = 0 → 
              (jaDe D) jy_M_aheadOf [.inr (.inr (70, 20, 0)), .inl x1, .inl x2] σ6 (jaKi fun r9 σ8 =>
                kk r9 σ8)))) ∧
        (r5 = 0 → kk (-1 : Int32) σ4))))) :
  jaDe (D + 1) jy_M_waits [.inr (.inr (70, 20, 0)), .inl x1, .inl x2] σ (jaKi kk) :=
  jaCall_intro (mt := jaMt) (y := jy_M_waits) (f := jf_M_waits) (ps := jp_M_waits) (nL := 3) rfl rfl (jaRun_go (jaCall_self jaAr jaMt D) [] 25 _ _ _ _ h)
abbrev jm_M_serialFirst : jaM := (jf_M_serialFirst, jp_M_serialFirst, 2)
def jc_M_serialFirst_1 (D : Nat) (kk : jaT → Prop) (x1 : Int32) (σ : jaT) : Prop := jaC (jaDe D) jm_M_serialFirst (jaKv kk) 1 [some (.inr (.inr (70, 20, 0))), some (.inl x1)] [] σ
theorem js_M_serialFirst {D : Nat} {kk : jaT → Prop} {σ : jaT}  (h :
  jc_M_serialFirst_1 D kk (nI 0) σ) :
  jaDe (D + 1) jy_M_serialFirst [.inr (.inr (70, 20, 0))] σ (jaKv kk) :=
  jaCall_intro (mt := jaMt) (y := jy_M_serialFirst) (f := jf_M_serialFirst) (ps := jp_M_serialFirst) (nL := 2) rfl rfl (jaRun_go (jaCall_self jaAr jaMt D) [1] 6 _ _ _ _ h)
theorem jb_M_serialFirst_1 {D : Nat} {kk : jaT → Prop} {σ : jaT} {x1 : Int32} (h :
  ((nI 10) ≤ x1 → kk σ) ∧
  (¬ (nI 10) ≤ x1 → 
    vp_in ((nI 15) + x1) 706 ∧ (vp_in x1 10 ∧ 
    (let σ1 : jaT := jaU σ 20 (jaUI (σ 20) 81 0 (jaIx x1) ((σ 20).1 72 0 (jaIx ((nI 15) + x1))))
    jc_M_serialFirst_1 D kk (x1 + (nI 1)) σ1)))) :
  jc_M_serialFirst_1 D kk x1 σ :=
  jaRun_go (jaCall_self jaAr jaMt D) [1] 18 _ _ _ _ h
abbrev jm_M_serialNext : jaM := (jf_M_serialNext, jp_M_serialNext, 3)
def jc_M_serialNext_2 (D : Nat) (kk : jaT → Prop) (x1 : Int32) (x2 : Int32) (σ : jaT) : Prop := jaC (jaDe D) jm_M_serialNext (jaKv kk) 2 [some (.inr (.inr (70, 20, 0))), some (.inl x1), some (.inl x2)] [] σ
theorem js_M_serialNext {D : Nat} {kk : jaT → Prop} {σ : jaT} {x1 : Int32} (h :
  (jaDe D) jy_M_idAt [.inr (.inr (70, 20, 0)), .inl x1] σ (jaKi fun r2 σ1 =>
    (jaDe D) jy_M_goesBy [.inr (.inr (70, 20, 0)), .inr (.inr (81, 20, 0)), .inl (nI 0), .inl r2] σ1 (jaKi fun r4 σ3 =>
      (r4 = (nI 2) → jc_M_serialNext_2 D kk x1 (nI 0) σ3) ∧
      (¬ r4 = (nI 2) → kk σ3)))) :
  jaDe (D + 1) jy_M_serialNext [.inr (.inr (70, 20, 0)), .inl x1] σ (jaKv kk) :=
  jaCall_intro (mt := jaMt) (y := jy_M_serialNext) (f := jf_M_serialNext) (ps := jp_M_serialNext) (nL := 3) rfl rfl (jaRun_go (jaCall_self jaAr jaMt D) [2] 16 _ _ _ _ h)
theorem jb_M_serialNext_2 {D : Nat} {kk : jaT → Prop} {σ : jaT} {x1 : Int32} {x2 : Int32} (h :
  vp_in (nI 1) 706 ∧ ((((σ 20).1 72 0 (jaIx (nI 1))) ≤ x2 → kk σ) ∧
  (¬ ((σ 20).1 72 0 (jaIx (nI 1))) ≤ x2 → 
    (jaDe D) jy_M_bitOf [.inl ((σ 20).1 70 0 29), .inl x2] σ (jaKi fun r2 σ1 =>
      (r2 = 0 → jc_M_serialNext_2 D kk x1 (x2 + (nI 1)) σ1) ∧
      (¬ r2 = 0 → 
        vp_in x2 10 ∧ (vp_in x2 10 ∧ 
        (let σ3 : jaT := jaU σ1 20 (jaUI (σ1 20) 81 0 (jaIx x2) ((σ1 20).1 80 0 (jaIx x2)))
        jc_M_serialNext_2 D kk x1 (x2 + (nI 1)) σ3))))))) :
  jc_M_serialNext_2 D kk x1 x2 σ :=
  jaRun_go (jaCall_self jaAr jaMt D) [2] 25 _ _ _ _ h
abbrev jm_M_serial : jaM := (jf_M_serial, jp_M_serial, 3)
def jc_M_serial_4 (D : Nat) (kk : Int32 → jaT → Prop) (x1 : Int32) (x2 : Int32) (σ : jaT) : Prop := jaC (jaDe D) jm_M_serial (jaKi kk) 4 [some (.inr (.inr (70, 20, 0))), some (.inl x1), some (.inl x2)] [] σ
theorem js_M_serial {D : Nat} {kk : Int32 → jaT → Prop} {σ : jaT} {x1 : Int32} (h :
  (jaDe D) jy_M_isKey [.inr (.inr (70, 20, 0)), .inl x1] σ (jaKi fun r2 σ1 =>
    (¬ r2 = 0 → 
      (jaDe D) jy_M_throwsIf [.inr (.inr (70, 20, 0)), .inl (nI 0)] σ1 (jaKi fun r4 σ3 =>
        (r4 = 0 → 
          (jaDe D) jy_M_serialFirst [.inr (.inr (70, 20, 0))] σ3 (jaKv fun σ5 =>
            jc_M_serial_4 D kk x1 (nI 0) σ5)) ∧
        (¬ r4 = 0 → kk (nI 0) σ3))) ∧
    (r2 = 0 → 
      (jaDe D) jy_M_throwsIf [.inr (.inr (70, 20, 0)), .inl (nI 1)] σ1 (jaKi fun r7 σ6 =>
        (r7 = 0 → 
          (jaDe D) jy_M_serialFirst [.inr (.inr (70, 20, 0))] σ6 (jaKv fun σ8 =>
            jc_M_serial_4 D kk x1 (nI 0) σ8)) ∧
        (¬ r7 = 0 → kk (nI 0) σ6))))) :
  jaDe (D + 1) jy_M_serial [.inr (.inr (70, 20, 0)), .inl x1] σ (jaKi kk) :=
  jaCall_intro (mt := jaMt) (y := jy_M_serial) (f := jf_M_serial) (ps := jp_M_serial) (nL := 3) rfl rfl (jaRun_go (jaCall_self jaAr jaMt D) [4] 17 _ _ _ _ h)
theorem jb_M_serial_4 {D : Nat} {kk : Int32 → jaT → Prop} {σ : jaT} {x1 : Int32} {x2 : Int32} (h :
  vp_in (nI 34) 706 ∧ ((((σ 20).1 72 0 (jaIx (nI 34))) ≤ x2 → vp_in x1 10 ∧ kk ((σ 20).1 81 0 (jaIx x1)) σ) ∧
  (¬ ((σ 20).1 72 0 (jaIx (nI 34))) ≤ x2 → 
    (jaDe D) jy_M_serialNext [.inr (.inr (70, 20, 0)), .inl x2] σ (jaKv fun σ1 =>
      jc_M_serial_4 D kk x1 (x2 + (nI 1)) σ1)))) :
  jc_M_serial_4 D kk x1 x2 σ :=
  jaRun_go (jaCall_self jaAr jaMt D) [4] 14 _ _ _ _ h
abbrev jm_M_areSame : jaM := (jf_M_areSame, jp_M_areSame, 4)
def jc_M_areSame_1 (D : Nat) (kk : Int32 → jaT → Prop) (x1 : Int32) (x2 : Int32) (u3 : Option jaV) (σ : jaT) : Prop := jaC (jaDe D) jm_M_areSame (jaKi kk) 1 [some (.inr (.inr (70, 20, 0))), some (.inl x1), some (.inl x2), u3] [] σ
def jc_M_areSame_4 (D : Nat) (kk : Int32 → jaT → Prop) (x1 : Int32) (x2 : Int32) (x3 : Int32) (σ : jaT) : Prop := jaC (jaDe D) jm_M_areSame (jaKi kk) 4 [some (.inr (.inr (70, 20, 0))), some (.inl x1), some (.inl x2), some (.inl x3)] [] σ
theorem js_M_areSame {D : Nat} {kk : Int32 → jaT → Prop} {σ : jaT}  (h :
  jc_M_areSame_1 D kk (nI 1) (nI 0) none σ) :
  jaDe (D + 1) jy_M_areSame [.inr (.inr (70, 20, 0))] σ (jaKi kk) :=
  jaCall_intro (mt := jaMt) (y := jy_M_areSame) (f := jf_M_areSame) (ps := jp_M_areSame) (nL := 4) rfl rfl (jaRun_go (jaCall_self jaAr jaMt D) [1, 4] 8 _ _ _ _ h)
theorem jb_M_areSame_1 {D : Nat} {kk : Int32 → jaT → Prop} {σ : jaT} {x1 : Int32} {x2 : Int32} {u3 : Option jaV} (h :
  vp_in (nI 2) 706 ∧ ((((σ 20).1 72 0 (jaIx (nI 2))) ≤ x2 → (x1 = 0 ∨ x1 = 1) ∧ kk x1 σ) ∧
  (¬ ((σ 20).1 72 0 (jaIx (nI 2))) ≤ x2 → 
    (x1 = 0 → jc_M_areSame_4 D kk (nI 0) x2 (nI 0) σ) ∧
    (¬ x1 = 0 → 
      vp_in (nI 34) 706 ∧ ((jaDe D) jy_M_areOver [.inr (.inr (70, 20, 0)), .inl x2, .inl ((σ 20).1 72 0 (jaIx (nI 34)))] σ (jaKi fun r2 σ1 =>
        (r2 = 0 → jc_M_areSame_4 D kk (nI 0) x2 (nI 0) σ1) ∧
        (¬ r2 = 0 → jc_M_areSame_4 D kk (nI 1) x2 (nI 0) σ1))))))) :
  jc_M_areSame_1 D kk x1 x2 u3 σ :=
  jaRun_go (jaCall_self jaAr jaMt D) [1, 4] 25 _ _ _ _ h
theorem jb_M_areSame_4 {D : Nat} {kk : Int32 → jaT → Prop} {σ : jaT} {x1 : Int32} {x2 : Int32} {x3 : Int32} (h :
  vp_in (nI 1) 706 ∧ ((((σ 20).1 72 0 (jaIx (nI 1))) ≤ x3 → jc_M_areSame_1 D kk x1 (x2 + (nI 1)) (some (.inl x3)) σ) ∧
  (¬ ((σ 20).1 72 0 (jaIx (nI 1))) ≤ x3 → 
    (x1 = 0 → jc_M_areSame_4 D kk (nI 0) x2 (x3 + (nI 1)) σ) ∧
    (¬ x1 = 0 → 
      vp_in (((nI 145) + ((nI 10) * x2)) + x3) 706 ∧ (vp_in ((nI 145) + x3) 706 ∧ ((¬ ((σ 20).1 72 0 (jaIx (((nI 145) + ((nI 10) * x2)) + x3))) = ((σ 20).1 72 0 (jaIx ((nI 145) + x3))) → jc_M_areSame_4 D kk (nI 0) x2 (x3 + (nI 1)) σ) ∧
      (((σ 20).1 72 0 (jaIx (((nI 145) + ((nI 10) * x2)) + x3))) = ((σ 20).1 72 0 (jaIx ((nI 145) + x3))) → jc_M_areSame_4 D kk (nI 1) x2 (x3 + (nI 1)) σ))))))) :
  jc_M_areSame_4 D kk x1 x2 x3 σ :=
  jaRun_go (jaCall_self jaAr jaMt D) [1, 4] 33 _ _ _ _ h
abbrev jm_M_same : jaM := (jf_M_same, jp_M_same, 1)
theorem js_M_same {D : Nat} {kk : Int32 → jaT → Prop} {σ : jaT}  (h :
  let σ1 : jaT := jaU σ 20 (jaUI (σ 20) 70 0 0 (nI 0))
  (jaDe D) jy_M_areSame [.inr (.inr (70, 20, 0))] σ1 (jaKi fun r3 σ2 =>
    (r3 = 0 → kk (nI 0) σ2) ∧
    (¬ r3 = 0 → kk (nI 1) σ2))) :
  jaDe (D + 1) jy_M_same [.inr (.inr (70, 20, 0))] σ (jaKi kk) :=
  jaCall_intro (mt := jaMt) (y := jy_M_same) (f := jf_M_same) (ps := jp_M_same) (nL := 1) rfl rfl (jaRun_go (jaCall_self jaAr jaMt D) [] 12 _ _ _ _ h)
abbrev jm_M_lays : jaM := (jf_M_lays, jp_M_lays, 6)
def jc_M_lays_1 (D : Nat) (kk : Int32 → jaT → Prop) (x1 : Int32) (x2 : Int32) (x3 : Int32) (u4 : Option jaV) (u5 : Option jaV) (σ : jaT) : Prop := jaC (jaDe D) jm_M_lays (jaKi kk) 1 [some (.inr (.inr (70, 20, 0))), some (.inl x1), some (.inl x2), some (.inl x3), u4, u5] [] σ
def jc_M_lays_2 (D : Nat) (kk : Int32 → jaT → Prop) (x1 : Int32) (x2 : Int32) (x3 : Int32) (x4 : Int32) (x5 : Int32) (σ : jaT) : Prop := jaC (jaDe D) jm_M_lays (jaKi kk) 2 [some (.inr (.inr (70, 20, 0))), some (.inl x1), some (.inl x2), some (.inl x3), some (.inl x4), some (.inl x5)] [] σ
theorem js_M_lays {D : Nat} {kk : Int32 → jaT → Prop} {σ : jaT} {x1 : Int32} (h :
  jc_M_lays_1 D kk x1 (nI 0) (nI 0) none none σ) :
  jaDe (D + 1) jy_M_lays [.inr (.inr (70, 20, 0)), .inl x1] σ (jaKi kk) :=
  jaCall_intro (mt := jaMt) (y := jy_M_lays) (f := jf_M_lays) (ps := jp_M_lays) (nL := 6) rfl rfl (jaRun_go (jaCall_self jaAr jaMt D) [1, 2] 8 _ _ _ _ h)
theorem jb_M_lays_1 {D : Nat} {kk : Int32 → jaT → Prop} {σ : jaT} {x1 : Int32} {x2 : Int32} {x3 : Int32} {u4 : Option jaV} {u5 : Option jaV} (h :
  vp_in (nI 34) 706 ∧ ((((σ 20).1 72 0 (jaIx (nI 34))) ≤ x3 → kk x2 σ) ∧
  (¬ ((σ 20).1 72 0 (jaIx (nI 34))) ≤ x3 → jc_M_lays_2 D kk x1 x2 x3 (nI 0) (nI 0) σ))) :
  jc_M_lays_1 D kk x1 x2 x3 u4 u5 σ :=
  jaRun_go (jaCall_self jaAr jaMt D) [1, 2] 14 _ _ _ _ h
theorem jb_M_lays_2 {D : Nat} {kk : Int32 → jaT → Prop} {σ : jaT} {x1 : Int32} {x2 : Int32} {x3 : Int32} {x4 : Int32} {x5 : Int32} (h :
  (x3 ≤ x5 → 
    (x1 = 0 → 
      vp_in x3 40 ∧ 
      (let σ1 : jaT := jaU σ 20 (jaUI (σ 20) 85 0 (jaIx x3) ((x4 + (nI 1)) + (nI 0)))
      vp_in x3 40 ∧ (jaDe D) jy_M_greater [.inl x2, .inl ((σ1 20).1 85 0 (jaIx x3))] σ1 (jaKi fun r3 σ2 =>
        jc_M_lays_1 D kk x1 r3 (x3 + (nI 1)) (some (.inl x4)) (some (.inl x5)) σ2))) ∧
    (¬ x1 = 0 → 
      (jaDe D) jy_M_isLong [.inr (.inr (70, 20, 0)), .inl x3] σ (jaKi fun r5 σ4 =>
        (r5 = 0 → 
          vp_in x3 40 ∧ 
          (let σ6 : jaT := jaU σ4 20 (jaUI (σ4 20) 85 0 (jaIx x3) ((x4 + (nI 1)) + (nI 0)))
          vp_in x3 40 ∧ (jaDe D) jy_M_greater [.inl x2, .inl ((σ6 20).1 85 0 (jaIx x3))] σ6 (jaKi fun r8 σ7 =>
            jc_M_lays_1 D kk x1 r8 (x3 + (nI 1)) (some (.inl x4)) (some (.inl x5)) σ7))) ∧
        (¬ r5 = 0 → 
          vp_in (nI 4) 706 ∧ (vp_in x3 40 ∧ 
          (let σ9 : jaT := jaU σ4 20 (jaUI (σ4 20) 85 0 (jaIx x3) ((x4 + (nI 1)) + ((σ4 20).1 72 0 (jaIx (nI 4)))))
          vp_in x3 40 ∧ (jaDe D) jy_M_greater [.inl x2, .inl ((σ9 20).1 85 0 (jaIx x3))] σ9 (jaKi fun r11 σ10 =>
            jc_M_lays_1 D kk x1 r11 (x3 + (nI 1)) (some (.inl x4)) (some (.inl x5)) σ10))))))) ∧
  (¬ x3 ≤ x5 → 
    (jaDe D) jy_M_areConflict [.inr (.inr (70, 20, 0)), .inl x3, .inl x5] σ (jaKi fun r13 σ12 =>
      (r13 = 0 → jc_M_lays_2 D kk x1 x2 x3 x4 (x5 + (nI 1)) σ12) ∧
      (¬ r13 = 0 → 
        vp_in x5 40 ∧ (jaDe D) jy_M_greater [.inl x4, .inl ((σ12 20).1 85 0 (jaIx x5))] σ12 (jaKi fun r15 σ14 =>
          jc_M_lays_2 D kk x1 x2 x3 r15 (x5 + (nI 1)) σ14))))) :
  jc_M_lays_2 D kk x1 x2 x3 x4 x5 σ :=
  jaRun_go (jaCall_self jaAr jaMt D) [1, 2] 34 _ _ _ _ h
abbrev jm_M_chain : jaM := (jf_M_chain, jp_M_chain, 1)
theorem js_M_chain {D : Nat} {kk : Int32 → jaT → Prop} {σ : jaT}  (h :
  let σ1 : jaT := jaU σ 20 (jaUI (σ 20) 70 0 0 (nI 0))
  (jaDe D) jy_M_lays [.inr (.inr (70, 20, 0)), .inl (nI 0)] σ1 (jaKi fun r3 σ2 =>
    kk r3 σ2)) :
  jaDe (D + 1) jy_M_chain [.inr (.inr (70, 20, 0))] σ (jaKi kk) :=
  jaCall_intro (mt := jaMt) (y := jy_M_chain) (f := jf_M_chain) (ps := jp_M_chain) (nL := 1) rfl rfl (jaRun_go (jaCall_self jaAr jaMt D) [] 10 _ _ _ _ h)
abbrev jm_M_least : jaM := (jf_M_least, jp_M_least, 1)
theorem js_M_least {D : Nat} {kk : Int32 → jaT → Prop} {σ : jaT}  (h :
  let σ1 : jaT := jaU σ 20 (jaUI (σ 20) 70 0 0 (nI 0))
  (jaDe D) jy_M_lays [.inr (.inr (70, 20, 0)), .inl (nI 1)] σ1 (jaKi fun r3 σ2 =>
    kk r3 σ2)) :
  jaDe (D + 1) jy_M_least [.inr (.inr (70, 20, 0))] σ (jaKi kk) :=
  jaCall_intro (mt := jaMt) (y := jy_M_least) (f := jf_M_least) (ps := jp_M_least) (nL := 1) rfl rfl (jaRun_go (jaCall_self jaAr jaMt D) [] 10 _ _ _ _ h)
abbrev jm_M_isAllOver : jaM := (jf_M_isAllOver, jp_M_isAllOver, 3)
def jc_M_isAllOver_3 (D : Nat) (kk : Int32 → jaT → Prop) (x1 : Int32) (x2 : Int32) (σ : jaT) : Prop := jaC (jaDe D) jm_M_isAllOver (jaKi kk) 3 [some (.inr (.inr (70, 20, 0))), some (.inl x1), some (.inl x2)] [] σ
theorem js_M_isAllOver {D : Nat} {kk : Int32 → jaT → Prop} {σ : jaT}  (h :
  vp_in (nI 35) 706 ∧ ((¬ ((σ 20).1 72 0 (jaIx (nI 35))) = 0 → jc_M_isAllOver_3 D kk (nI 0) (nI 0) σ) ∧
  (((σ 20).1 72 0 (jaIx (nI 35))) = 0 → jc_M_isAllOver_3 D kk (nI 1) (nI 0) σ))) :
  jaDe (D + 1) jy_M_isAllOver [.inr (.inr (70, 20, 0))] σ (jaKi kk) :=
  jaCall_intro (mt := jaMt) (y := jy_M_isAllOver) (f := jf_M_isAllOver) (ps := jp_M_isAllOver) (nL := 3) rfl rfl (jaRun_go (jaCall_self jaAr jaMt D) [3] 14 _ _ _ _ h)
theorem jb_M_isAllOver_3 {D : Nat} {kk : Int32 → jaT → Prop} {σ : jaT} {x1 : Int32} {x2 : Int32} (h :
  vp_in (nI 2) 706 ∧ ((((σ 20).1 72 0 (jaIx (nI 2))) ≤ x2 → (x1 = 0 ∨ x1 = 1) ∧ kk x1 σ) ∧
  (¬ ((σ 20).1 72 0 (jaIx (nI 2))) ≤ x2 → 
    (x1 = 0 → jc_M_isAllOver_3 D kk (nI 0) (x2 + (nI 1)) σ) ∧
    (¬ x1 = 0 → 
      vp_in (nI 34) 706 ∧ ((jaDe D) jy_M_areOver [.inr (.inr (70, 20, 0)), .inl x2, .inl ((σ 20).1 72 0 (jaIx (nI 34)))] σ (jaKi fun r2 σ1 =>
        (r2 = 0 → jc_M_isAllOver_3 D kk (nI 0) (x2 + (nI 1)) σ1) ∧
        (¬ r2 = 0 → jc_M_isAllOver_3 D kk (nI 1) (x2 + (nI 1)) σ1))))))) :
  jc_M_isAllOver_3 D kk x1 x2 σ :=
  jaRun_go (jaCall_self jaAr jaMt D) [3] 24 _ _ _ _ h
abbrev jm_M_over : jaM := (jf_M_over, jp_M_over, 3)
def jc_M_over_1 (D : Nat) (kk : Int32 → jaT → Prop) (x1 : Int32) (x2 : Int32) (σ : jaT) : Prop := jaC (jaDe D) jm_M_over (jaKi kk) 1 [some (.inr (.inr (70, 20, 0))), some (.inl x1), some (.inl x2)] [] σ
theorem js_M_over {D : Nat} {kk : Int32 → jaT → Prop} {σ : jaT}  (h :
  let σ1 : jaT := jaU σ 20 (jaUI (σ 20) 70 0 0 (nI 0))
  (jaDe D) jy_M_tries [.inr (.inr (70, 20, 0))] σ1 (jaKv fun σ2 =>
    jc_M_over_1 D kk (-1 : Int32) (nI 0) σ2)) :
  jaDe (D + 1) jy_M_over [.inr (.inr (70, 20, 0))] σ (jaKi kk) :=
  jaCall_intro (mt := jaMt) (y := jy_M_over) (f := jf_M_over) (ps := jp_M_over) (nL := 3) rfl rfl (jaRun_go (jaCall_self jaAr jaMt D) [1] 13 _ _ _ _ h)
theorem jb_M_over_1 {D : Nat} {kk : Int32 → jaT → Prop} {σ : jaT} {x1 : Int32} {x2 : Int32} (h :
  ((nI 400) < x2 → 
    (jaDe D) jy_M_brings [.inr (.inr (70, 20, 0))] σ (jaKv fun σ1 =>
      kk x1 σ1)) ∧
  (¬ (nI 400) < x2 → 
    (0 ≤ x1 → 
      (jaDe D) jy_M_brings [.inr (.inr (70, 20, 0))] σ (jaKv fun σ2 =>
        kk x1 σ2)) ∧
    (¬ 0 ≤ x1 → 
      (jaDe D) jy_M_isAllOver [.inr (.inr (70, 20, 0))] σ (jaKi fun r4 σ3 =>
        (r4 = 0 → 
          (jaDe D) jy_M_tick [.inr (.inr (70, 20, 0))] σ3 (jaKv fun σ5 =>
            jc_M_over_1 D kk x1 (x2 + (nI 1)) σ5)) ∧
        (¬ r4 = 0 → 
          (jaDe D) jy_M_tick [.inr (.inr (70, 20, 0))] σ3 (jaKv fun σ6 =>
            jc_M_over_1 D kk x2 (x2 + (nI 1)) σ6)))))) :
  jc_M_over_1 D kk x1 x2 σ :=
  jaRun_go (jaCall_self jaAr jaMt D) [1] 18 _ _ _ _ h
abbrev jm_M_isSo : jaM := (jf_M_isSo, jp_M_isSo, 3)
def jc_M_isSo_1 (D : Nat) (kk : Int32 → jaT → Prop) (x1 : Int32) (x2 : Int32) (σ : jaT) : Prop := jaC (jaDe D) jm_M_isSo (jaKi kk) 1 [some (.inr (.inr (70, 20, 0))), some (.inl x1), some (.inl x2)] [] σ
theorem js_M_isSo {D : Nat} {kk : Int32 → jaT → Prop} {σ : jaT}  (h :
  jc_M_isSo_1 D kk (nI 1) (nI 0) σ) :
  jaDe (D + 1) jy_M_isSo [.inr (.inr (70, 20, 0))] σ (jaKi kk) :=
  jaCall_intro (mt := jaMt) (y := jy_M_isSo) (f := jf_M_isSo) (ps := jp_M_isSo) (nL := 3) rfl rfl (jaRun_go (jaCall_self jaAr jaMt D) [1] 8 _ _ _ _ h)
theorem jb_M_isSo_1 {D : Nat} {kk : Int32 → jaT → Prop} {σ : jaT} {x1 : Int32} {x2 : Int32} (h :
  (((σ 20).1 70 0 3) ≤ x2 → (x1 = 0 ∨ x1 = 1) ∧ kk x1 σ) ∧
  (¬ ((σ 20).1 70 0 3) ≤ x2 → 
    (x1 = 0 → jc_M_isSo_1 D kk (nI 0) (x2 + (nI 2)) σ) ∧
    (¬ x1 = 0 → 
      (jaDe D) jy_M_octet [.inr (.inr (70, 20, 0)), .inl x2] σ (jaKi fun r2 σ1 =>
        vp_in r2 10 ∧ ((jaDe D) jy_M_octet [.inr (.inr (70, 20, 0)), .inl (x2 + (nI 1))] σ1 (jaKi fun r4 σ3 =>
          (¬ ((σ1 20).1 81 0 (jaIx r2)) = r4 → jc_M_isSo_1 D kk (nI 0) (x2 + (nI 2)) σ3) ∧
          (((σ1 20).1 81 0 (jaIx r2)) = r4 → jc_M_isSo_1 D kk (nI 1) (x2 + (nI 2)) σ3))))))) :
  jc_M_isSo_1 D kk x1 x2 σ :=
  jaRun_go (jaCall_self jaAr jaMt D) [1] 26 _ _ _ _ h
abbrev jm_M_leftBy : jaM := (jf_M_leftBy, jp_M_leftBy, 6)
def jc_M_leftBy_1 (D : Nat) (kk : Int32 → jaT → Prop) (x1 : Int32) (x2 : Int32) (x3 : Int32) (u4 : Option jaV) (u5 : Option jaV) (σ : jaT) : Prop := jaC (jaDe D) jm_M_leftBy (jaKi kk) 1 [some (.inr (.inr (70, 20, 0))), some (.inl x1), some (.inl x2), some (.inl x3), u4, u5] [] σ
def jc_M_leftBy_2 (D : Nat) (kk : Int32 → jaT → Prop) (x1 : Int32) (x2 : Int32) (x3 : Int32) (x4 : Int32) (x5 : Int32) (σ : jaT) : Prop := jaC (jaDe D) jm_M_leftBy (jaKi kk) 2 [some (.inr (.inr (70, 20, 0))), some (.inl x1), some (.inl x2), some (.inl x3), some (.inl x4), some (.inl x5)] [] σ
theorem js_M_leftBy {D : Nat} {kk : Int32 → jaT → Prop} {σ : jaT} {x1 : Int32} (h :
  jc_M_leftBy_1 D kk x1 (nI 0) (nI 0) none none σ) :
  jaDe (D + 1) jy_M_leftBy [.inr (.inr (70, 20, 0)), .inl x1] σ (jaKi kk) :=
  jaCall_intro (mt := jaMt) (y := jy_M_leftBy) (f := jf_M_leftBy) (ps := jp_M_leftBy) (nL := 6) rfl rfl (jaRun_go (jaCall_self jaAr jaMt D) [1, 2] 8 _ _ _ _ h)
theorem jb_M_leftBy_1 {D : Nat} {kk : Int32 → jaT → Prop} {σ : jaT} {x1 : Int32} {x2 : Int32} {x3 : Int32} {u4 : Option jaV} {u5 : Option jaV} (h :
  (((σ 20).1 70 0 37) ≤ x3 → kk x2 σ) ∧
  (¬ ((σ 20).1 70 0 37) ≤ x3 → jc_M_leftBy_2 D kk x1 x2 x3 (nI 0) (nI 0) σ)) :
  jc_M_leftBy_1 D kk x1 x2 x3 u4 u5 σ :=
  jaRun_go (jaCall_self jaAr jaMt D) [1, 2] 12 _ _ _ _ h
theorem jb_M_leftBy_2 {D : Nat} {kk : Int32 → jaT → Prop} {σ : jaT} {x1 : Int32} {x2 : Int32} {x3 : Int32} {x4 : Int32} {x5 : Int32} (h :
  (((σ 20).1 70 0 37) ≤ x5 → 
    (jaDe D) jy_M_greater [.inl x2, .inl x4] σ (jaKi fun r2 σ1 =>
      jc_M_leftBy_1 D kk x1 r2 (x3 + (nI 1)) (some (.inl x4)) (some (.inl x5)) σ1)) ∧
  (¬ ((σ 20).1 70 0 37) ≤ x5 → 
    vp_in (((nI 10) * x3) + x1) 410 ∧ (vp_in (((nI 10) * x5) + x1) 410 ∧ ((¬ ((σ 20).1 87 0 (jaIx (((nI 10) * x3) + x1))) = ((σ 20).1 87 0 (jaIx (((nI 10) * x5) + x1))) → jc_M_leftBy_2 D kk x1 x2 x3 (x4 + (nI 0)) (x5 + (nI 1)) σ) ∧
    (((σ 20).1 87 0 (jaIx (((nI 10) * x3) + x1))) = ((σ 20).1 87 0 (jaIx (((nI 10) * x5) + x1))) → jc_M_leftBy_2 D kk x1 x2 x3 (x4 + (nI 1)) (x5 + (nI 1)) σ))))) :
  jc_M_leftBy_2 D kk x1 x2 x3 x4 x5 σ :=
  jaRun_go (jaCall_self jaAr jaMt D) [1, 2] 31 _ _ _ _ h
abbrev jm_M_so : jaM := (jf_M_so, jp_M_so, 3)
def jc_M_so_3 (D : Nat) (kk : Int32 → jaT → Prop) (x1 : Int32) (σ : jaT) : Prop := jaC (jaDe D) jm_M_so (jaKi kk) 3 [some (.inr (.inr (70, 20, 0))), some (.inl x1), none] [] σ
def jc_M_so_6 (D : Nat) (kk : Int32 → jaT → Prop) (x1 : Int32) (u2 : Option jaV) (σ : jaT) : Prop := jaC (jaDe D) jm_M_so (jaKi kk) 6 [some (.inr (.inr (70, 20, 0))), some (.inl x1), u2] [] σ
def jc_M_so_9 (D : Nat) (kk : Int32 → jaT → Prop) (x1 : Int32) (x2 : Int32) (σ : jaT) : Prop := jaC (jaDe D) jm_M_so (jaKi kk) 9 [some (.inr (.inr (70, 20, 0))), some (.inl x1), some (.inl x2)] [] σ
def jc_M_so_14 (D : Nat) (kk : Int32 → jaT → Prop) (x1 : Int32) (u2 : Option jaV) (σ : jaT) : Prop := jaC (jaDe D) jm_M_so (jaKi kk) 14 [some (.inr (.inr (70, 20, 0))), some (.inl x1), u2] [] σ
theorem js_M_so {D : Nat} {kk : Int32 → jaT → Prop} {σ : jaT}  (h :
  let σ1 : jaT := jaU σ 20 (jaUI (σ 20) 70 0 0 (nI 0))
  (jaDe D) jy_M_taken [.inr (.inr (70, 20, 0)), .inl (nI 940)] σ1 (jaKv fun σ2 =>
    (jaDe D) jy_M_isIn [.inl ((σ2 20).1 70 0 3), .inl (nI 2), .inl (nI 12)] σ2 (jaKi fun r4 σ3 =>
      (r4 = 0 → kk (-1 : Int32) σ3) ∧
      (¬ r4 = 0 → 
        ¬ (nI 2) = 0 ∧ ((¬ (((σ3 20).1 70 0 3) - ((σ3 20).1 70 0 3) / (nI 2) * (nI 2)) = (nI 1) → jc_M_so_3 D kk (nI 0) σ3) ∧
        ((((σ3 20).1 70 0 3) - ((σ3 20).1 70 0 3) / (nI 2) * (nI 2)) = (nI 1) → kk (-1 : Int32) σ3)))))) :
  jaDe (D + 1) jy_M_so [.inr (.inr (70, 20, 0))] σ (jaKi kk) :=
  jaCall_intro (mt := jaMt) (y := jy_M_so) (f := jf_M_so) (ps := jp_M_so) (nL := 3) rfl rfl (jaRun_go (jaCall_self jaAr jaMt D) [3, 6, 9, 14] 24 _ _ _ _ h)
theorem jb_M_so_3 {D : Nat} {kk : Int32 → jaT → Prop} {σ : jaT} {x1 : Int32} (h :
  (((σ 20).1 70 0 3) ≤ x1 → 
    let σ1 : jaT := jaU σ 20 (jaUI (σ 20) 70 0 37 (nI 0))
    (jaDe D) jy_M_serialFirst [.inr (.inr (70, 20, 0))] σ1 (jaKv fun σ2 =>
      jc_M_so_6 D kk (nI 0) none σ2)) ∧
  (¬ ((σ 20).1 70 0 3) ≤ x1 → 
    (jaDe D) jy_M_octet [.inr (.inr (70, 20, 0)), .inl x1] σ (jaKi fun r4 σ3 =>
      (jaDe D) jy_M_isKey [.inr (.inr (70, 20, 0)), .inl r4] σ3 (jaKi fun r6 σ5 =>
        (¬ r6 = 0 → jc_M_so_3 D kk (x1 + (nI 2)) σ5) ∧
        (r6 = 0 → kk (-1 : Int32) σ5))))) :
  jc_M_so_3 D kk x1 σ :=
  jaRun_go (jaCall_self jaAr jaMt D) [3, 6, 9, 14] 15 _ _ _ _ h
theorem jb_M_so_6 {D : Nat} {kk : Int32 → jaT → Prop} {σ : jaT} {x1 : Int32} {u2 : Option jaV} (h :
  vp_in (nI 34) 706 ∧ ((((σ 20).1 72 0 (jaIx (nI 34))) < x1 → 
    (¬ ((σ 20).1 70 0 37) = 0 → 
      ((nI 1) = 0 ∨ (nI 1) = 1) ∧
      (let σ1 : jaT := jaU σ 20 (jaUI (σ 20) 70 0 39 (nI 1))
      let σ2 : jaT := jaU σ1 20 (jaUI (σ1 20) 70 0 38 (nI 0))
      jc_M_so_14 D kk (nI 1) u2 σ2)) ∧
    (((σ 20).1 70 0 37) = 0 → kk (nI 0) σ)) ∧
  (¬ ((σ 20).1 72 0 (jaIx (nI 34))) < x1 → 
    (x1 ≤ 0 → 
      (jaDe D) jy_M_isSo [.inr (.inr (70, 20, 0))] σ (jaKi fun r4 σ3 =>
        (¬ r4 = 0 → 
          vp_in ((σ3 20).1 70 0 37) 41 ∧ 
          (let σ5 : jaT := jaU σ3 20 (jaUI (σ3 20) 86 0 (jaIx ((σ3 20).1 70 0 37)) x1)
          jc_M_so_9 D kk x1 (nI 0) σ5)) ∧
        (r4 = 0 → jc_M_so_6 D kk (x1 + (nI 1)) u2 σ3))) ∧
    (¬ x1 ≤ 0 → 
      (jaDe D) jy_M_serialNext [.inr (.inr (70, 20, 0)), .inl (x1 - (nI 1))] σ (jaKv fun σ6 =>
        (jaDe D) jy_M_isSo [.inr (.inr (70, 20, 0))] σ6 (jaKi fun r8 σ7 =>
          (¬ r8 = 0 → 
            vp_in ((σ7 20).1 70 0 37) 41 ∧ 
            (let σ9 : jaT := jaU σ7 20 (jaUI (σ7 20) 86 0 (jaIx ((σ7 20).1 70 0 37)) x1)
            jc_M_so_9 D kk x1 (nI 0) σ9)) ∧
          (r8 = 0 → jc_M_so_6 D kk (x1 + (nI 1)) u2 σ7))))))) :
  jc_M_so_6 D kk x1 u2 σ :=
  jaRun_go (jaCall_self jaAr jaMt D) [3, 6, 9, 14] 29 _ _ _ _ h
theorem jb_M_so_9 {D : Nat} {kk : Int32 → jaT → Prop} {σ : jaT} {x1 : Int32} {x2 : Int32} (h :
  ((nI 10) ≤ x2 → 
    let σ1 : jaT := jaU σ 20 (jaUI (σ 20) 70 0 37 (((σ 20).1 70 0 37) + (nI 1)))
    jc_M_so_6 D kk (x1 + (nI 1)) (some (.inl x2)) σ1) ∧
  (¬ (nI 10) ≤ x2 → 
    vp_in x2 10 ∧ (vp_in (((nI 10) * ((σ 20).1 70 0 37)) + x2) 410 ∧ 
    (let σ2 : jaT := jaU σ 20 (jaUI (σ 20) 87 0 (jaIx (((nI 10) * ((σ 20).1 70 0 37)) + x2)) ((σ 20).1 81 0 (jaIx x2)))
    jc_M_so_9 D kk x1 (x2 + (nI 1)) σ2)))) :
  jc_M_so_9 D kk x1 x2 σ :=
  jaRun_go (jaCall_self jaAr jaMt D) [3, 6, 9, 14] 21 _ _ _ _ h
theorem jb_M_so_14 {D : Nat} {kk : Int32 → jaT → Prop} {σ : jaT} {x1 : Int32} {u2 : Option jaV} (h :
  vp_in (nI 1) 706 ∧ ((((σ 20).1 72 0 (jaIx (nI 1))) ≤ x1 → kk ((σ 20).1 70 0 37) σ) ∧
  (¬ ((σ 20).1 72 0 (jaIx (nI 1))) ≤ x1 → 
    (jaDe D) jy_M_leftBy [.inr (.inr (70, 20, 0)), .inl x1] σ (jaKi fun r2 σ1 =>
      (jaDe D) jy_M_leftBy [.inr (.inr (70, 20, 0)), .inl ((σ1 20).1 70 0 38)] σ1 (jaKi fun r4 σ3 =>
        (r4 ≤ r2 → jc_M_so_14 D kk (x1 + (nI 1)) u2 σ3) ∧
        (¬ r4 ≤ r2 → 
          let σ5 : jaT := jaU σ3 20 (jaUI (σ3 20) 70 0 38 x1)
          jc_M_so_14 D kk (x1 + (nI 1)) u2 σ5)))))) :
  jc_M_so_14 D kk x1 u2 σ :=
  jaRun_go (jaCall_self jaAr jaMt D) [3, 6, 9, 14] 23 _ _ _ _ h
abbrev jm_M_soAt : jaM := (jf_M_soAt, jp_M_soAt, 2)
theorem js_M_soAt {D : Nat} {kk : Int32 → jaT → Prop} {σ : jaT} {x1 : Int32} (h :
  let σ1 : jaT := jaU σ 20 (jaUI (σ 20) 70 0 0 (nI 0))
  (jaDe D) jy_M_isIn [.inl x1, .inl (nI 0), .inl (((σ1 20).1 70 0 37) - (nI 1))] σ1 (jaKi fun r3 σ2 =>
    (r3 = 0 → kk (-1 : Int32) σ2) ∧
    (¬ r3 = 0 → vp_in x1 41 ∧ kk ((σ2 20).1 86 0 (jaIx x1)) σ2))) :
  jaDe (D + 1) jy_M_soAt [.inr (.inr (70, 20, 0)), .inl x1] σ (jaKi kk) :=
  jaCall_intro (mt := jaMt) (y := jy_M_soAt) (f := jf_M_soAt) (ps := jp_M_soAt) (nL := 2) rfl rfl (jaRun_go (jaCall_self jaAr jaMt D) [] 20 _ _ _ _ h)
abbrev jm_M_ask : jaM := (jf_M_ask, jp_M_ask, 1)
theorem js_M_ask {D : Nat} {kk : Int32 → jaT → Prop} {σ : jaT}  (h :
  let σ1 : jaT := jaU σ 20 (jaUI (σ 20) 70 0 0 (nI 0))
  (((σ1 20).1 70 0 39) = 0 → kk (-1 : Int32) σ1) ∧
  (¬ ((σ1 20).1 70 0 39) = 0 → kk ((σ1 20).1 70 0 38) σ1)) :
  jaDe (D + 1) jy_M_ask [.inr (.inr (70, 20, 0))] σ (jaKi kk) :=
  jaCall_intro (mt := jaMt) (y := jy_M_ask) (f := jf_M_ask) (ps := jp_M_ask) (nL := 1) rfl rfl (jaRun_go (jaCall_self jaAr jaMt D) [] 13 _ _ _ _ h)
abbrev jm_M_draw : jaM := (jf_M_draw, jp_M_draw, 2)
theorem js_M_draw {D : Nat} {kk : Int32 → jaT → Prop} {σ : jaT} {x1 : Int32} (h :
  let σ1 : jaT := jaU σ 20 (jaUI (σ 20) 70 0 40 ((((σ 20).1 70 0 40) * (nI 1103515245)) + (nI 12345)))
  ¬ x1 = 0 ∧ kk (((Int32.toUInt32 ((σ1 20).1 70 0 40) >>> (Int32.toUInt32 (nI 8) &&& Int32.toUInt32 31)).toInt32) - ((Int32.toUInt32 ((σ1 20).1 70 0 40) >>> (Int32.toUInt32 (nI 8) &&& Int32.toUInt32 31)).toInt32) / x1 * x1) σ1) :
  jaDe (D + 1) jy_M_draw [.inr (.inr (70, 20, 0)), .inl x1] σ (jaKi kk) :=
  jaCall_intro (mt := jaMt) (y := jy_M_draw) (f := jf_M_draw) (ps := jp_M_draw) (nL := 2) rfl rfl (jaRun_go (jaCall_self jaAr jaMt D) [] 18 _ _ _ _ h)
abbrev jm_M_drawDeed : jaM := (jf_M_drawDeed, jp_M_drawDeed, 4)
set_option maxRecDepth 20000 in
theorem js_M_drawDeed {D : Nat} {kk : jaT → Prop} {σ : jaT}  (h :
  (jaDe D) jy_M_draw [.inr (.inr (70, 20, 0)), .inl (nI 6)] σ (jaKi fun r2 σ1 =>
    ((nI 2) ≤ r2 → 
      (¬ r2 = (nI 2) → 
        (¬ r2 = (nI 3) → kk σ1) ∧
        (r2 = (nI 3) → 
          vp_in (nI 36) 706 ∧ ((¬ ((σ1 20).1 72 0 (jaIx (nI 36))) = 0 → kk σ1) ∧
          (((σ1 20).1 72 0 (jaIx (nI 36))) = 0 → 
            (jaDe D) jy_M_checks [.inr (.inr (70, 20, 0))] σ1 (jaKv fun σ3 =>
              kk σ3))))) ∧
      (r2 = (nI 2) → 
        vp_in (nI 2) 706 ∧ ((jaDe D) jy_M_draw [.inr (.inr (70, 20, 0)), .inl ((σ1 20).1 72 0 (jaIx (nI 2)))] σ1 (jaKi fun r5 σ4 =>
          (jaDe D) jy_M_draw [.inr (.inr (70, 20, 0)), .inl (nI 4)] σ4 (jaKi fun r7 σ6 =>
            (¬ r7 = 0 → kk σ6) ∧
            (r7 = 0 → 
              vp_in (nI 34) 706 ∧ ((((σ6 20).1 72 0 (jaIx (nI 34))) ≤ 0 → kk σ6) ∧
              (¬ ((σ6 20).1 72 0 (jaIx (nI 34))) ≤ 0 → 
                (jaDe D) jy_M_crashes [.inr (.inr (70, 20, 0)), .inl r5] σ6 (jaKv fun σ8 =>
                  kk σ8))))))))) ∧
    (¬ (nI 2) ≤ r2 → 
      vp_in (nI 0) 706 ∧ ((((σ1 20).1 72 0 (jaIx (nI 0))) ≤ 0 → 
        (¬ r2 = (nI 2) → 
          (¬ r2 = (nI 3) → kk σ1) ∧
          (r2 = (nI 3) → 
            vp_in (nI 36) 706 ∧ ((¬ ((σ1 20).1 72 0 (jaIx (nI 36))) = 0 → kk σ1) ∧
            (((σ1 20).1 72 0 (jaIx (nI 36))) = 0 → 
              (jaDe D) jy_M_checks [.inr (.inr (70, 20, 0))] σ1 (jaKv fun σ9 =>
                kk σ9))))) ∧
        (r2 = (nI 2) → 
          vp_in (nI 2) 706 ∧ ((jaDe D) jy_M_draw [.inr (.inr (70, 20, 0)), .inl ((σ1 20).1 72 0 (jaIx (nI 2)))] σ1 (jaKi fun r11 σ10 =>
            (jaDe D) jy_M_draw [.inr (.inr (70, 20, 0)), .inl (nI 4)] σ10 (jaKi fun r13 σ12 =>
              (¬ r13 = 0 → kk σ12) ∧
              (r13 = 0 → 
                vp_in (nI 34) 706 ∧ ((((σ12 20).1 72 0 (jaIx (nI 34))) ≤ 0 → kk σ12) ∧
                (¬ ((σ12 20).1 72 0 (jaIx (nI 34))) ≤ 0 → 
                  (jaDe D) jy_M_crashes [.inr (.inr (70, 20, 0)), .inl r11] σ12 (jaKv fun σ14 =>
                    kk σ14))))))))) ∧
      (¬ ((σ1 20).1 72 0 (jaIx (nI 0))) ≤ 0 → 
        vp_in (nI 32) 706 ∧ ((((σ1 20).1 72 0 (jaIx (nI 32))) ≤ 0 → 
          (¬ r2 = (nI 2) → 
            (¬ r2 = (nI 3) → kk σ1) ∧
            (r2 = (nI 3) → 
              vp_in (nI 36) 706 ∧ ((¬ ((σ1 20).1 72 0 (jaIx (nI 36))) = 0 → kk σ1) ∧
              (((σ1 20).1 72 0 (jaIx (nI 36))) = 0 → 
                (jaDe D) jy_M_checks [.inr (.inr (70, 20, 0))] σ1 (jaKv fun σ15 =>
                  kk σ15))))) ∧
          (r2 = (nI 2) → 
            vp_in (nI 2) 706 ∧ ((jaDe D) jy_M_draw [.inr (.inr (70, 20, 0)), .inl ((σ1 20).1 72 0 (jaIx (nI 2)))] σ1 (jaKi fun r17 σ16 =>
              (jaDe D) jy_M_draw [.inr (.inr (70, 20, 0)), .inl (nI 4)] σ16 (jaKi fun r19 σ18 =>
                (¬ r19 = 0 → kk σ18) ∧
                (r19 = 0 → 
                  vp_in (nI 34) 706 ∧ ((((σ18 20).1 72 0 (jaIx (nI 34))) ≤ 0 → kk σ18) ∧
                  (¬ ((σ18 20).1 72 0 (jaIx (nI 34))) ≤ 0 → 
                    (jaDe D) jy_M_crashes [.inr (.inr (70, 20, 0)), .inl r17] σ18 (jaKv fun σ20 =>
                      kk σ20))))))))) ∧
        (¬ ((σ1 20).1 72 0 (jaIx (nI 32))) ≤ 0 → 
          vp_in (nI 0) 706 ∧ ((jaDe D) jy_M_draw [.inr (.inr (70, 20, 0)), .inl ((σ1 20).1 72 0 (jaIx (nI 0)))] σ1 (jaKi fun r22 σ21 =>
            vp_in (nI 32) 706 ∧ ((jaDe D) jy_M_draw [.inr (.inr (70, 20, 0)), .inl ((σ21 20).1 72 0 (jaIx (nI 32)))] σ21 (jaKi fun r24 σ23 =>
              vp_in (nI 32) 706 ∧ (((nI 24) ≤ ((σ23 20).1 72 0 (jaIx (nI 32))) → kk σ23) ∧
              (¬ (nI 24) ≤ ((σ23 20).1 72 0 (jaIx (nI 32))) → 
                (jaDe D) jy_M_putsTrans [.inr (.inr (70, 20, 0)), .inl r22, .inl r24] σ23 (jaKv fun σ25 =>
                  kk σ25)))))))))))))) :
  jaDe (D + 1) jy_M_drawDeed [.inr (.inr (70, 20, 0))] σ (jaKv kk) :=
  jaCall_intro (mt := jaMt) (y := jy_M_drawDeed) (f := jf_M_drawDeed) (ps := jp_M_drawDeed) (nL := 4) rfl rfl (jaRun_go (jaCall_self jaAr jaMt D) [] 47 _ _ _ _ h)
abbrev jm_M_draws : jaM := (jf_M_draws, jp_M_draws, 4)
def jc_M_draws_1 (D : Nat) (kk : Int32 → jaT → Prop) (x1 : Int32) (x2 : Int32) (x3 : Int32) (σ : jaT) : Prop := jaC (jaDe D) jm_M_draws (jaKi kk) 1 [some (.inr (.inr (70, 20, 0))), some (.inl x1), some (.inl x2), some (.inl x3)] [] σ
theorem js_M_draws {D : Nat} {kk : Int32 → jaT → Prop} {σ : jaT} {x1 : Int32} {x2 : Int32} (h :
  let σ1 : jaT := jaU σ 20 (jaUI (σ 20) 70 0 40 x2)
  jc_M_draws_1 D kk x1 x2 (nI 0) σ1) :
  jaDe (D + 1) jy_M_draws [.inr (.inr (70, 20, 0)), .inl x1, .inl x2] σ (jaKi kk) :=
  jaCall_intro (mt := jaMt) (y := jy_M_draws) (f := jf_M_draws) (ps := jp_M_draws) (nL := 4) rfl rfl (jaRun_go (jaCall_self jaAr jaMt D) [1] 9 _ _ _ _ h)
theorem jb_M_draws_1 {D : Nat} {kk : Int32 → jaT → Prop} {σ : jaT} {x1 : Int32} {x2 : Int32} {x3 : Int32} (h :
  (x1 ≤ x3 → kk x3 σ) ∧
  (¬ x1 ≤ x3 → 
    vp_in (nI 31) 706 ∧ (((nI 1000) ≤ ((σ 20).1 72 0 (jaIx (nI 31))) → kk x3 σ) ∧
    (¬ (nI 1000) ≤ ((σ 20).1 72 0 (jaIx (nI 31))) → 
      (jaDe D) jy_M_drawDeed [.inr (.inr (70, 20, 0))] σ (jaKv fun σ1 =>
        (jaDe D) jy_M_tick [.inr (.inr (70, 20, 0))] σ1 (jaKv fun σ2 =>
          jc_M_draws_1 D kk x1 x2 (x3 + (nI 1)) σ2)))))) :
  jc_M_draws_1 D kk x1 x2 x3 σ :=
  jaRun_go (jaCall_self jaAr jaMt D) [1] 18 _ _ _ _ h
abbrev jm_M_drawn : jaM := (jf_M_drawn, jp_M_drawn, 3)
theorem js_M_drawn {D : Nat} {kk : Int32 → jaT → Prop} {σ : jaT} {x1 : Int32} {x2 : Int32} (h :
  let σ1 : jaT := jaU σ 20 (jaUI (σ 20) 70 0 0 (nI 0))
  (jaDe D) jy_M_isIn [.inl x1, .inl (nI 1), .inl (nI 60)] σ1 (jaKi fun r3 σ2 =>
    (¬ r3 = 0 → 
      vp_in (nI 31) 706 ∧ (((nI 1000) ≤ ((σ2 20).1 72 0 (jaIx (nI 31))) → 
        (jaDe D) jy_M_draws [.inr (.inr (70, 20, 0)), .inl x1, .inl x2] σ2 (jaKi fun r5 σ4 =>
          kk r5 σ4)) ∧
      (¬ (nI 1000) ≤ ((σ2 20).1 72 0 (jaIx (nI 31))) → 
        (jaDe D) jy_M_stores [.inr (.inr (70, 20, 0))] σ2 (jaKv fun σ6 =>
          (jaDe D) jy_M_draws [.inr (.inr (70, 20, 0)), .inl x1, .inl x2] σ6 (jaKi fun r8 σ7 =>
            kk r8 σ7))))) ∧
    (r3 = 0 → kk (-1 : Int32) σ2))) :
  jaDe (D + 1) jy_M_drawn [.inr (.inr (70, 20, 0)), .inl x1, .inl x2] σ (jaKi kk) :=
  jaCall_intro (mt := jaMt) (y := jy_M_drawn) (f := jf_M_drawn) (ps := jp_M_drawn) (nL := 3) rfl rfl (jaRun_go (jaCall_self jaAr jaMt D) [] 25 _ _ _ _ h)
abbrev jm_M_odds : jaM := (jf_M_odds, jp_M_odds, 5)
def jc_M_odds_2 (D : Nat) (kk : Int32 → jaT → Prop) (x1 : Int32) (x2 : Int32) (x3 : Int32) (x4 : Int32) (σ : jaT) : Prop := jaC (jaDe D) jm_M_odds (jaKi kk) 2 [some (.inr (.inr (70, 20, 0))), some (.inl x1), some (.inl x2), some (.inl x3), some (.inl x4)] [] σ
theorem js_M_odds {D : Nat} {kk : Int32 → jaT → Prop} {σ : jaT} {x1 : Int32} {x2 : Int32} (h :
  let σ1 : jaT := jaU σ 20 (jaUI (σ 20) 70 0 0 (nI 0))
  (jaDe D) jy_M_isIn [.inl x1, .inl (nI 1), .inl (nI 10)] σ1 (jaKi fun r3 σ2 =>
    (¬ r3 = 0 → 
      (jaDe D) jy_M_tries [.inr (.inr (70, 20, 0))] σ2 (jaKv fun σ4 =>
        jc_M_odds_2 D kk x1 x2 (nI 0) (nI 0) σ4)) ∧
    (r3 = 0 → kk (-1 : Int32) σ2))) :
  jaDe (D + 1) jy_M_odds [.inr (.inr (70, 20, 0)), .inl x1, .inl x2] σ (jaKi kk) :=
  jaCall_intro (mt := jaMt) (y := jy_M_odds) (f := jf_M_odds) (ps := jp_M_odds) (nL := 5) rfl rfl (jaRun_go (jaCall_self jaAr jaMt D) [2] 18 _ _ _ _ h)
theorem jb_M_odds_2 {D : Nat} {kk : Int32 → jaT → Prop} {σ : jaT} {x1 : Int32} {x2 : Int32} {x3 : Int32} {x4 : Int32} (h :
  (x1 ≤ x4 → kk x3 σ) ∧
  (¬ x1 ≤ x4 → 
    (jaDe D) jy_M_draws [.inr (.inr (70, 20, 0)), .inl (nI 30), .inl (x2 + x4)] σ (jaKi fun r2 σ1 =>
      (jaDe D) jy_M_areSame [.inr (.inr (70, 20, 0))] σ1 (jaKi fun r4 σ3 =>
        (r4 = 0 → 
          (jaDe D) jy_M_brings [.inr (.inr (70, 20, 0))] σ3 (jaKv fun σ5 =>
            jc_M_odds_2 D kk x1 x2 (x3 + (nI 0)) (x4 + (nI 1)) σ5)) ∧
        (¬ r4 = 0 → 
          (jaDe D) jy_M_brings [.inr (.inr (70, 20, 0))] σ3 (jaKv fun σ6 =>
            jc_M_odds_2 D kk x1 x2 (x3 + (nI 1)) (x4 + (nI 1)) σ6)))))) :
  jc_M_odds_2 D kk x1 x2 x3 x4 σ :=
  jaRun_go (jaCall_self jaAr jaMt D) [2] 25 _ _ _ _ h
abbrev jm_M_bookLine : jaM := (jf_M_bookLine, jp_M_bookLine, 4)
def jc_M_bookLine_5 (D : Nat) (kk : Int32 → jaT → Prop) (x1 : Int32) (xs0 : Int32) (σ : jaT) : Prop := jaC (jaDe D) jm_M_bookLine (jaKi kk) 5 [some (.inr (.inr (70, 20, 0))), some (.inl x1), none, none] [.inl xs0] σ
def jc_M_bookLine_11 (D : Nat) (kk : Int32 → jaT → Prop) (x1 : Int32) (x2 : Int32) (xs0 : Int32) (σ : jaT) : Prop := jaC (jaDe D) jm_M_bookLine (jaKi kk) 11 [some (.inr (.inr (70, 20, 0))), some (.inl x1), some (.inl x2), none] [.inl xs0] σ
def jc_M_bookLine_12 (D : Nat) (kk : Int32 → jaT → Prop) (x1 : Int32) (x2 : Int32) (x3 : Int32) (σ : jaT) : Prop := jaC (jaDe D) jm_M_bookLine (jaKi kk) 12 [some (.inr (.inr (70, 20, 0))), some (.inl x1), some (.inl x2), some (.inl x3)] [] σ
theorem js_M_bookLine {D : Nat} {kk : Int32 → jaT → Prop} {σ : jaT}  (h :
  (jaDe D) jy_M_isWord [.inr (.inr (70, 20, 0)), .inr (.inl (Int64.ofNat 7370100))] σ (jaKi fun r2 σ1 =>
    (r2 = 0 → 
      (jaDe D) jy_M_isWord [.inr (.inr (70, 20, 0)), .inr (.inl (Int64.ofNat 426953237355))] σ1 (jaKi fun r4 σ3 =>
        (r4 = 0 → 
          (jaDe D) jy_M_isWord [.inr (.inr (70, 20, 0)), .inr (.inl (Int64.ofNat 427120751464))] σ3 (jaKi fun r6 σ5 =>
            (r6 = 0 → 
              (jaDe D) jy_M_isWord [.inr (.inr (70, 20, 0)), .inr (.inl (Int64.ofNat 1953063787))] σ5 (jaKi fun r8 σ7 =>
                (r8 = 0 → 
                  jc_M_bookLine_5 D kk ((nI 3) * ((σ 20).1 70 0 41)) (-1 : Int32) σ7) ∧
                (¬ r8 = 0 → 
                  jc_M_bookLine_5 D kk ((nI 3) * ((σ 20).1 70 0 41)) (nI 3) σ7))) ∧
            (¬ r6 = 0 → 
              jc_M_bookLine_5 D kk ((nI 3) * ((σ 20).1 70 0 41)) (nI 2) σ5))) ∧
        (¬ r4 = 0 → 
          jc_M_bookLine_5 D kk ((nI 3) * ((σ 20).1 70 0 41)) (nI 1) σ3))) ∧
    (¬ r2 = 0 → 
      jc_M_bookLine_5 D kk ((nI 3) * ((σ 20).1 70 0 41)) (nI 0) σ1))) :
  jaDe (D + 1) jy_M_bookLine [.inr (.inr (70, 20, 0))] σ (jaKi kk) :=
  jaCall_intro (mt := jaMt) (y := jy_M_bookLine) (f := jf_M_bookLine) (ps := jp_M_bookLine) (nL := 4) rfl rfl (jaRun_go (jaCall_self jaAr jaMt D) [5, 11, 12] 26 _ _ _ _ h)
theorem jb_M_bookLine_5 {D : Nat} {kk : Int32 → jaT → Prop} {σ : jaT} {x1 : Int32} {xs0 : Int32} (h :
  (0 ≤ xs0 → 
    (¬ ((σ 20).1 70 0 41) = (nI 40) → 
      (jaDe D) jy_M_next [.inr (.inr (70, 20, 0))] σ (jaKv fun σ1 =>
        vp_in x1 135 ∧ 
        (let σ2 : jaT := jaU σ1 20 (jaUI (σ1 20) 74 0 (jaIx x1) xs0)
        (¬ xs0 = (nI 1) → 
          (¬ xs0 = 0 → 
            (¬ xs0 = (nI 2) → 
              (jaDe D) jy_M_takes [.inr (.inr (70, 20, 0)), .inl (nI 1), .inl (nI 60)] σ2 (jaKi fun r4 σ3 =>
                jc_M_bookLine_11 D kk x1 xs0 r4 σ3)) ∧
            (xs0 = (nI 2) → 
              (jaDe D) jy_M_namesOfCopies [.inr (.inr (70, 20, 0))] σ2 (jaKi fun r6 σ5 =>
                (jaDe D) jy_M_takesName [.inr (.inr (70, 20, 0)), .inl (nI 13), .inl r6] σ5 (jaKi fun r8 σ7 =>
                  jc_M_bookLine_11 D kk x1 xs0 r8 σ7)))) ∧
          (xs0 = 0 → 
            vp_in (nI 0) 706 ∧ (jaDe D) jy_M_takesName [.inr (.inr (70, 20, 0)), .inl (nI 0), .inl ((σ2 20).1 72 0 (jaIx (nI 0)))] σ2 (jaKi fun r10 σ9 =>
              jc_M_bookLine_11 D kk x1 xs0 r10 σ9))) ∧
        (xs0 = (nI 1) → ((nI 1) = 0 ∨ (nI 1) = 1) ∧ kk (nI 1) σ2)))) ∧
    (((σ 20).1 70 0 41) = (nI 40) → 
      (jaDe D) jy_M_bad [.inr (.inr (70, 20, 0)), .inl (nI 4)] σ (jaKi fun r12 σ11 =>
        (r12 = 0 ∨ r12 = 1) ∧ kk r12 σ11))) ∧
  (¬ 0 ≤ xs0 → 
    (jaDe D) jy_M_bad [.inr (.inr (70, 20, 0)), .inl (nI 1)] σ (jaKi fun r14 σ13 =>
      (r14 = 0 ∨ r14 = 1) ∧ kk r14 σ13))) :
  jc_M_bookLine_5 D kk x1 xs0 σ :=
  jaRun_go (jaCall_self jaAr jaMt D) [5, 11, 12] 31 _ _ _ _ h
theorem jb_M_bookLine_11 {D : Nat} {kk : Int32 → jaT → Prop} {σ : jaT} {x1 : Int32} {x2 : Int32} {xs0 : Int32} (h :
  vp_in (x1 + (nI 1)) 135 ∧ 
  (let σ1 : jaT := jaU σ 20 (jaUI (σ 20) 74 0 (jaIx (x1 + (nI 1))) ((σ 20).1 70 0 21))
  (xs0 = 0 → jc_M_bookLine_12 D kk x1 x2 xs0 σ1) ∧
  (¬ xs0 = 0 → 
    (x2 ≤ 0 → 
      (jaDe D) jy_M_takes [.inr (.inr (70, 20, 0)), .inl (nI 0), .inl (nI 23)] σ1 (jaKi fun r3 σ2 =>
        vp_in (x1 + (nI 2)) 135 ∧ 
        (let σ4 : jaT := jaU σ2 20 (jaUI (σ2 20) 74 0 (jaIx (x1 + (nI 2))) ((σ2 20).1 70 0 21))
        (r3 = 0 ∨ r3 = 1) ∧ kk r3 σ4))) ∧
    (¬ x2 ≤ 0 → jc_M_bookLine_12 D kk x1 x2 xs0 σ1)))) :
  jc_M_bookLine_11 D kk x1 x2 xs0 σ :=
  jaRun_go (jaCall_self jaAr jaMt D) [5, 11, 12] 31 _ _ _ _ h
theorem jb_M_bookLine_12 {D : Nat} {kk : Int32 → jaT → Prop} {σ : jaT} {x1 : Int32} {x2 : Int32} {x3 : Int32} (h :
  (x3 = 0 ∨ x3 = 1) ∧ kk x3 σ) :
  jc_M_bookLine_12 D kk x1 x2 x3 σ :=
  jaRun_go (jaCall_self jaAr jaMt D) [5, 11, 12] 5 _ _ _ _ h
abbrev jm_M_namesOfCopies : jaM := (jf_M_namesOfCopies, jp_M_namesOfCopies, 1)
theorem js_M_namesOfCopies {D : Nat} {kk : Int32 → jaT → Prop} {σ : jaT}  (h :
  vp_in (nI 13) 32 ∧ ((¬ (lg_cmp ((σ 20).2 78 0 (jaIx (nI 13))) (Int64.ofNat 0)) = 0 → vp_in (nI 2) 706 ∧ kk ((σ 20).1 72 0 (jaIx (nI 2))) σ) ∧
  ((lg_cmp ((σ 20).2 78 0 (jaIx (nI 13))) (Int64.ofNat 0)) = 0 → kk (nI 0) σ))) :
  jaDe (D + 1) jy_M_namesOfCopies [.inr (.inr (70, 20, 0))] σ (jaKi kk) :=
  jaCall_intro (mt := jaMt) (y := jy_M_namesOfCopies) (f := jf_M_namesOfCopies) (ps := jp_M_namesOfCopies) (nL := 1) rfl rfl (jaRun_go (jaCall_self jaAr jaMt D) [] 16 _ _ _ _ h)
abbrev jm_M_does : jaM := (jf_M_does, jp_M_does, 5)
theorem js_M_does {D : Nat} {kk : Int32 → jaT → Prop} {σ : jaT} {x1 : Int32} {x2 : Int32} {x3 : Int32} (h :
  (x1.toInt < 0 ∨ 2 < x1.toInt → 
    vp_in (nI 31) 706 ∧ (((((σ 20).1 72 0 (jaIx (nI 31))) + x2) ≤ (nI 1000) → 
      (¬ (nI 0) = 0 → 
        ((nI 0) ≤ 0 → kk (nI 0) σ) ∧
        (¬ (nI 0) ≤ 0 → kk ((nI 0) + ((nI 10) * x1)) σ)) ∧
      ((nI 0) = 0 → 
        (jaDe D) jy_M_goesOn [.inr (.inr (70, 20, 0)), .inl x2] σ (jaKi fun r2 σ1 =>
          ((nI 0) ≤ 0 → kk (nI 0) σ1) ∧
          (¬ (nI 0) ≤ 0 → kk ((nI 0) + ((nI 10) * x1)) σ1)))) ∧
    (¬ (((σ 20).1 72 0 (jaIx (nI 31))) + x2) ≤ (nI 1000) → 
      (¬ (nI 1) = 0 → 
        ((nI 1) ≤ 0 → kk (nI 0) σ) ∧
        (¬ (nI 1) ≤ 0 → kk ((nI 1) + ((nI 10) * x1)) σ)) ∧
      ((nI 1) = 0 → 
        (jaDe D) jy_M_goesOn [.inr (.inr (70, 20, 0)), .inl x2] σ (jaKi fun r4 σ3 =>
          ((nI 1) ≤ 0 → kk (nI 0) σ3) ∧
          (¬ (nI 1) ≤ 0 → kk ((nI 1) + ((nI 10) * x1)) σ3)))))) ∧
  (x1 = nI 0 → 
    vp_in (nI 32) 706 ∧ ((x3 < ((σ 20).1 72 0 (jaIx (nI 32))) → 
      vp_in (nI 32) 706 ∧ ((¬ ((σ 20).1 72 0 (jaIx (nI 32))) = (nI 24) → 
        (¬ (nI 0) = 0 → 
          ((nI 0) ≤ 0 → kk (nI 0) σ) ∧
          (¬ (nI 0) ≤ 0 → kk ((nI 0) + ((nI 10) * x1)) σ)) ∧
        ((nI 0) = 0 → 
          (jaDe D) jy_M_putsTrans [.inr (.inr (70, 20, 0)), .inl x2, .inl x3] σ (jaKv fun σ5 =>
            ((nI 0) ≤ 0 → kk (nI 0) σ5) ∧
            (¬ (nI 0) ≤ 0 → kk ((nI 0) + ((nI 10) * x1)) σ5)))) ∧
      (((σ 20).1 72 0 (jaIx (nI 32))) = (nI 24) → 
        (¬ (nI 1) = 0 → 
          ((nI 1) ≤ 0 → kk (nI 0) σ) ∧
          (¬ (nI 1) ≤ 0 → kk ((nI 1) + ((nI 10) * x1)) σ)) ∧
        ((nI 1) = 0 → 
          (jaDe D) jy_M_putsTrans [.inr (.inr (70, 20, 0)), .inl x2, .inl x3] σ (jaKv fun σ6 =>
            ((nI 1) ≤ 0 → kk (nI 0) σ6) ∧
            (¬ (nI 1) ≤ 0 → kk ((nI 1) + ((nI 10) * x1)) σ6)))))) ∧
    (¬ x3 < ((σ 20).1 72 0 (jaIx (nI 32))) → 
      (¬ (nI 9) = 0 → 
        ((nI 9) ≤ 0 → kk (nI 0) σ) ∧
        (¬ (nI 9) ≤ 0 → kk ((nI 9) + ((nI 10) * x1)) σ)) ∧
      ((nI 9) = 0 → 
        (jaDe D) jy_M_putsTrans [.inr (.inr (70, 20, 0)), .inl x2, .inl x3] σ (jaKv fun σ7 =>
          ((nI 9) ≤ 0 → kk (nI 0) σ7) ∧
          (¬ (nI 9) ≤ 0 → kk ((nI 9) + ((nI 10) * x1)) σ7)))))) ∧
  (x1 = nI 1 → 
    vp_in (nI 36) 706 ∧ ((¬ ((σ 20).1 72 0 (jaIx (nI 36))) = 0 → 
      (((σ 20).1 72 0 (jaIx (nI 36))) ≤ 0 → kk (nI 0) σ) ∧
      (¬ ((σ 20).1 72 0 (jaIx (nI 36))) ≤ 0 → kk (((σ 20).1 72 0 (jaIx (nI 36))) + ((nI 10) * x1)) σ)) ∧
    (((σ 20).1 72 0 (jaIx (nI 36))) = 0 → 
      (jaDe D) jy_M_checks [.inr (.inr (70, 20, 0))] σ (jaKv fun σ8 =>
        (((σ 20).1 72 0 (jaIx (nI 36))) ≤ 0 → kk (nI 0) σ8) ∧
        (¬ ((σ 20).1 72 0 (jaIx (nI 36))) ≤ 0 → kk (((σ 20).1 72 0 (jaIx (nI 36))) + ((nI 10) * x1)) σ8))))) ∧
  (x1 = nI 2 → 
    vp_in (nI 34) 706 ∧ ((¬ ((σ 20).1 72 0 (jaIx (nI 34))) = 0 → 
      (¬ (nI 0) = 0 → 
        ((nI 0) ≤ 0 → kk (nI 0) σ) ∧
        (¬ (nI 0) ≤ 0 → kk ((nI 0) + ((nI 10) * x1)) σ)) ∧
      ((nI 0) = 0 → 
        (jaDe D) jy_M_crashes [.inr (.inr (70, 20, 0)), .inl x2] σ (jaKv fun σ9 =>
          ((nI 0) ≤ 0 → kk (nI 0) σ9) ∧
          (¬ (nI 0) ≤ 0 → kk ((nI 0) + ((nI 10) * x1)) σ9)))) ∧
    (((σ 20).1 72 0 (jaIx (nI 34))) = 0 → 
      (¬ (nI 1) = 0 → 
        ((nI 1) ≤ 0 → kk (nI 0) σ) ∧
        (¬ (nI 1) ≤ 0 → kk ((nI 1) + ((nI 10) * x1)) σ)) ∧
      ((nI 1) = 0 → 
        (jaDe D) jy_M_crashes [.inr (.inr (70, 20, 0)), .inl x2] σ (jaKv fun σ10 =>
          ((nI 1) ≤ 0 → kk (nI 0) σ10) ∧
          (¬ (nI 1) ≤ 0 → kk ((nI 1) + ((nI 10) * x1)) σ10)))))) ∧ True) :
  jaDe (D + 1) jy_M_does [.inr (.inr (70, 20, 0)), .inl x1, .inl x2, .inl x3] σ (jaKi kk) :=
  jaCall_intro (mt := jaMt) (y := jy_M_does) (f := jf_M_does) (ps := jp_M_does) (nL := 5) rfl rfl (jaRun_go (jaCall_self jaAr jaMt D) [] 38 _ _ _ _ h)
abbrev jm_M_book : jaM := (jf_M_book, jp_M_book, 4)
def jc_M_book_2 (D : Nat) (kk : Int32 → jaT → Prop) (x1 : Int32) (σ : jaT) : Prop := jaC (jaDe D) jm_M_book (jaKi kk) 2 [some (.inr (.inr (70, 20, 0))), some (.inl x1), none, none] [] σ
def jc_M_book_6 (D : Nat) (kk : Int32 → jaT → Prop) (x1 : Int32) (x2 : Int32) (σ : jaT) : Prop := jaC (jaDe D) jm_M_book (jaKi kk) 6 [some (.inr (.inr (70, 20, 0))), some (.inl x1), some (.inl x2), none] [] σ
def jc_M_book_8 (D : Nat) (kk : Int32 → jaT → Prop) (x1 : Int32) (x2 : Int32) (x3 : Int32) (σ : jaT) : Prop := jaC (jaDe D) jm_M_book (jaKi kk) 8 [some (.inr (.inr (70, 20, 0))), some (.inl x1), some (.inl x2), some (.inl x3)] [] σ
def jc_M_book_12 (D : Nat) (kk : Int32 → jaT → Prop) (x1 : Int32) (x2 : Int32) (x3 : Int32) (σ : jaT) : Prop := jaC (jaDe D) jm_M_book (jaKi kk) 12 [some (.inr (.inr (70, 20, 0))), some (.inl x1), some (.inl x2), some (.inl x3)] [] σ
theorem js_M_book {D : Nat} {kk : Int32 → jaT → Prop} {σ : jaT} {x1 : Int32} (h :
  let σ1 : jaT := jaU σ 20 (jaUI (σ 20) 70 0 0 (nI 0))
  (jaDe D) jy_M_isIn [.inl x1, .inl (nI 0), .inl (nI 1)] σ1 (jaKi fun r3 σ2 =>
    (¬ r3 = 0 → 
      (jaDe D) jy_M_taken [.inr (.inr (70, 20, 0)), .inl (nI 400)] σ2 (jaKv fun σ4 =>
        let σ5 : jaT := jaU σ4 20 (jaUI (σ4 20) 70 0 18 (nI 0))
        let σ6 : jaT := jaU σ5 20 (jaUI (σ5 20) 70 0 41 (nI 0))
        (jaDe D) jy_M_next [.inr (.inr (70, 20, 0))] σ6 (jaKv fun σ7 =>
          jc_M_book_2 D kk x1 σ7))) ∧
    (r3 = 0 → kk (-1000 : Int32) σ2))) :
  jaDe (D + 1) jy_M_book [.inr (.inr (70, 20, 0)), .inl x1] σ (jaKi kk) :=
  jaCall_intro (mt := jaMt) (y := jy_M_book) (f := jf_M_book) (ps := jp_M_book) (nL := 4) rfl rfl (jaRun_go (jaCall_self jaAr jaMt D) [2, 6, 8, 12] 23 _ _ _ _ h)
theorem jb_M_book_2 {D : Nat} {kk : Int32 → jaT → Prop} {σ : jaT} {x1 : Int32} (h :
  (((σ 20).1 70 0 14) = 0 → 
    (jaDe D) jy_M_tries [.inr (.inr (70, 20, 0))] σ (jaKv fun σ1 =>
      jc_M_book_6 D kk x1 (nI 0) σ1)) ∧
  (¬ ((σ 20).1 70 0 14) = 0 → 
    (jaDe D) jy_M_bookLine [.inr (.inr (70, 20, 0))] σ (jaKi fun r3 σ2 =>
      (r3 = 0 → kk ((-2 : Int32) - ((σ2 20).1 70 0 19)) σ2) ∧
      (¬ r3 = 0 → 
        (jaDe D) jy_M_sign [.inr (.inr (70, 20, 0)), .inl (nI 59)] σ2 (jaKi fun r5 σ4 =>
          (¬ r5 = 0 → 
            let σ6 : jaT := jaU σ4 20 (jaUI (σ4 20) 70 0 41 (((σ4 20).1 70 0 41) + (nI 1)))
            jc_M_book_2 D kk x1 σ6) ∧
          (r5 = 0 → kk ((-2 : Int32) - ((σ4 20).1 70 0 19)) σ4)))))) :
  jc_M_book_2 D kk x1 σ :=
  jaRun_go (jaCall_self jaAr jaMt D) [2, 6, 8, 12] 20 _ _ _ _ h
theorem jb_M_book_6 {D : Nat} {kk : Int32 → jaT → Prop} {σ : jaT} {x1 : Int32} {x2 : Int32} (h :
  ((nI 4) ≤ x2 → jc_M_book_8 D kk x1 (-1 : Int32) (nI 0) σ) ∧
  (¬ (nI 4) ≤ x2 → 
    vp_in x2 4 ∧ 
    (let σ1 : jaT := jaU σ 20 (jaUI (σ 20) 88 0 (jaIx x2) (nI 0))
    jc_M_book_6 D kk x1 (x2 + (nI 1)) σ1))) :
  jc_M_book_6 D kk x1 x2 σ :=
  jaRun_go (jaCall_self jaAr jaMt D) [2, 6, 8, 12] 13 _ _ _ _ h
set_option maxRecDepth 20000 in
theorem jb_M_book_8 {D : Nat} {kk : Int32 → jaT → Prop} {σ : jaT} {x1 : Int32} {x2 : Int32} {x3 : Int32} (h :
  (((σ 20).1 70 0 41) ≤ x3 → 
    vp_in (nI 31) 706 ∧ (vp_in (nI 2) 4 ∧ 
    (let σ1 : jaT := jaU σ 20 (jaUI (σ 20) 88 0 (jaIx (nI 2)) ((σ 20).1 72 0 (jaIx (nI 31))))
    vp_in (nI 34) 706 ∧ (vp_in (nI 3) 4 ∧ 
    (let σ2 : jaT := jaU σ1 20 (jaUI (σ1 20) 88 0 (jaIx (nI 3)) ((σ1 20).1 72 0 (jaIx (nI 34))))
    ((nI 1) = 0 ∨ (nI 1) = 1) ∧
    (let σ3 : jaT := jaU σ2 20 (jaUI (σ2 20) 70 0 43 (nI 1))
    (¬ x1 = (nI 1) → 
      (¬ x1 = 0 → kk x2 σ3) ∧
      (x1 = 0 → 
        (jaDe D) jy_M_brings [.inr (.inr (70, 20, 0))] σ3 (jaKv fun σ4 =>
          kk x2 σ4))) ∧
    (x1 = (nI 1) → 
      vp_in (nI 1) 4 ∧ ((((σ3 20).1 88 0 (jaIx (nI 1))) ≤ 0 → 
        (¬ x1 = 0 → kk x2 σ3) ∧
        (x1 = 0 → 
          (jaDe D) jy_M_brings [.inr (.inr (70, 20, 0))] σ3 (jaKv fun σ5 =>
            kk x2 σ5))) ∧
      (¬ ((σ3 20).1 88 0 (jaIx (nI 1))) ≤ 0 → 
        (jaDe D) jy_M_stores [.inr (.inr (70, 20, 0))] σ3 (jaKv fun σ6 =>
          jc_M_book_12 D kk x1 x2 (nI 0) σ6)))))))))) ∧
  (¬ ((σ 20).1 70 0 41) ≤ x3 → 
    (0 ≤ x2 → 
      vp_in (nI 31) 706 ∧ (vp_in (nI 2) 4 ∧ 
      (let σ7 : jaT := jaU σ 20 (jaUI (σ 20) 88 0 (jaIx (nI 2)) ((σ 20).1 72 0 (jaIx (nI 31))))
      vp_in (nI 34) 706 ∧ (vp_in (nI 3) 4 ∧ 
      (let σ8 : jaT := jaU σ7 20 (jaUI (σ7 20) 88 0 (jaIx (nI 3)) ((σ7 20).1 72 0 (jaIx (nI 34))))
      ((nI 1) = 0 ∨ (nI 1) = 1) ∧
      (let σ9 : jaT := jaU σ8 20 (jaUI (σ8 20) 70 0 43 (nI 1))
      (¬ x1 = (nI 1) → 
        (¬ x1 = 0 → kk x2 σ9) ∧
        (x1 = 0 → 
          (jaDe D) jy_M_brings [.inr (.inr (70, 20, 0))] σ9 (jaKv fun σ10 =>
            kk x2 σ10))) ∧
      (x1 = (nI 1) → 
        vp_in (nI 1) 4 ∧ ((((σ9 20).1 88 0 (jaIx (nI 1))) ≤ 0 → 
          (¬ x1 = 0 → kk x2 σ9) ∧
          (x1 = 0 → 
            (jaDe D) jy_M_brings [.inr (.inr (70, 20, 0))] σ9 (jaKv fun σ11 =>
              kk x2 σ11))) ∧
        (¬ ((σ9 20).1 88 0 (jaIx (nI 1))) ≤ 0 → 
          (jaDe D) jy_M_stores [.inr (.inr (70, 20, 0))] σ9 (jaKv fun σ12 =>
            jc_M_book_12 D kk x1 x2 (nI 0) σ12)))))))))) ∧
    (¬ 0 ≤ x2 → 
      vp_in ((nI 3) * x3) 135 ∧ (vp_in (((nI 3) * x3) + (nI 1)) 135 ∧ (vp_in (((nI 3) * x3) + (nI 2)) 135 ∧ ((jaDe D) jy_M_does [.inr (.inr (70, 20, 0)), .inl ((σ 20).1 74 0 (jaIx ((nI 3) * x3))), .inl ((σ 20).1 74 0 (jaIx (((nI 3) * x3) + (nI 1)))), .inl ((σ 20).1 74 0 (jaIx (((nI 3) * x3) + (nI 2))))] σ (jaKi fun r14 σ13 =>
        vp_in (nI 0) 4 ∧ 
        (let σ15 : jaT := jaU σ13 20 (jaUI (σ13 20) 88 0 (jaIx (nI 0)) r14)
        vp_in (nI 0) 4 ∧ ((((σ15 20).1 88 0 (jaIx (nI 0))) ≤ 0 → 
          vp_in (nI 1) 4 ∧ (vp_in (nI 1) 4 ∧ 
          (let σ16 : jaT := jaU σ15 20 (jaUI (σ15 20) 88 0 (jaIx (nI 1)) (((σ15 20).1 88 0 (jaIx (nI 1))) + (nI 1)))
          jc_M_book_8 D kk x1 x2 (x3 + (nI 1)) σ16))) ∧
        (¬ ((σ15 20).1 88 0 (jaIx (nI 0))) ≤ 0 → jc_M_book_8 D kk x1 x3 (x3 + (nI 1)) σ15)))))))))) :
  jc_M_book_8 D kk x1 x2 x3 σ :=
  jaRun_go (jaCall_self jaAr jaMt D) [2, 6, 8, 12] 53 _ _ _ _ h
theorem jb_M_book_12 {D : Nat} {kk : Int32 → jaT → Prop} {σ : jaT} {x1 : Int32} {x2 : Int32} {x3 : Int32} (h :
  ((nI 494) ≤ x3 → 
    (¬ x1 = 0 → kk x2 σ) ∧
    (x1 = 0 → 
      (jaDe D) jy_M_brings [.inr (.inr (70, 20, 0))] σ (jaKv fun σ1 =>
        kk x2 σ1))) ∧
  (¬ (nI 494) ≤ x3 → 
    vp_in x3 494 ∧ (vp_in (((nI 494) * (((σ 20).1 70 0 33) - (nI 1))) + x3) 3952 ∧ 
    (let σ2 : jaT := jaU σ 20 (jaUI (σ 20) 83 0 (jaIx (((nI 494) * (((σ 20).1 70 0 33) - (nI 1))) + x3)) ((σ 20).1 84 0 (jaIx x3)))
    jc_M_book_12 D kk x1 x2 (x3 + (nI 1)) σ2)))) :
  jc_M_book_12 D kk x1 x2 x3 σ :=
  jaRun_go (jaCall_self jaAr jaMt D) [2, 6, 8, 12] 23 _ _ _ _ h
abbrev jm_M_told : jaM := (jf_M_told, jp_M_told, 2)
theorem js_M_told {D : Nat} {kk : Int32 → jaT → Prop} {σ : jaT} {x1 : Int32} (h :
  let σ1 : jaT := jaU σ 20 (jaUI (σ 20) 70 0 0 (nI 0))
  (((σ1 20).1 70 0 43) = 0 → kk (-1 : Int32) σ1) ∧
  (¬ ((σ1 20).1 70 0 43) = 0 → 
    (jaDe D) jy_M_isIn [.inl x1, .inl (nI 0), .inl (nI 3)] σ1 (jaKi fun r3 σ2 =>
      (r3 = 0 → kk (-1 : Int32) σ2) ∧
      (¬ r3 = 0 → vp_in x1 4 ∧ kk ((σ2 20).1 88 0 (jaIx x1)) σ2)))) :
  jaDe (D + 1) jy_M_told [.inr (.inr (70, 20, 0)), .inl x1] σ (jaKi kk) :=
  jaCall_intro (mt := jaMt) (y := jy_M_told) (f := jf_M_told) (ps := jp_M_told) (nL := 2) rfl rfl (jaRun_go (jaCall_self jaAr jaMt D) [] 20 _ _ _ _ h)
abbrev jm_M_code : jaM := (jf_M_code, jp_M_code, 4)
theorem js_M_code {D : Nat} {kk : jaT → Prop} {σ : jaT} {x1 : Int32} {x2 : Int32} {x3 : Int32} (h :
  vp_in ((nI 3) * ((σ 20).1 70 0 45)) 135 ∧ 
  (let σ1 : jaT := jaU σ 20 (jaUI (σ 20) 74 0 (jaIx ((nI 3) * ((σ 20).1 70 0 45))) x1)
  vp_in (((nI 3) * ((σ1 20).1 70 0 45)) + (nI 1)) 135 ∧ 
  (let σ2 : jaT := jaU σ1 20 (jaUI (σ1 20) 74 0 (jaIx (((nI 3) * ((σ1 20).1 70 0 45)) + (nI 1))) x2)
  vp_in (((nI 3) * ((σ2 20).1 70 0 45)) + (nI 2)) 135 ∧ 
  (let σ3 : jaT := jaU σ2 20 (jaUI (σ2 20) 74 0 (jaIx (((nI 3) * ((σ2 20).1 70 0 45)) + (nI 2))) x3)
  let σ4 : jaT := jaU σ3 20 (jaUI (σ3 20) 70 0 45 (((σ3 20).1 70 0 45) + (nI 1)))
  kk σ4)))) :
  jaDe (D + 1) jy_M_code [.inr (.inr (70, 20, 0)), .inl x1, .inl x2, .inl x3] σ (jaKv kk) :=
  jaCall_intro (mt := jaMt) (y := jy_M_code) (f := jf_M_code) (ps := jp_M_code) (nL := 4) rfl rfl (jaRun_go (jaCall_self jaAr jaMt D) [] 38 _ _ _ _ h)
abbrev jm_M_joins : jaM := (jf_M_joins, jp_M_joins, 2)
def jc_M_joins_1 (D : Nat) (kk : jaT → Prop) (x1 : Int32) (σ : jaT) : Prop := jaC (jaDe D) jm_M_joins (jaKv kk) 1 [some (.inr (.inr (70, 20, 0))), some (.inl x1)] [] σ
theorem js_M_joins {D : Nat} {kk : jaT → Prop} {σ : jaT} {x1 : Int32} (h :
  jc_M_joins_1 D kk x1 σ) :
  jaDe (D + 1) jy_M_joins [.inr (.inr (70, 20, 0)), .inl x1] σ (jaKv kk) :=
  jaCall_intro (mt := jaMt) (y := jy_M_joins) (f := jf_M_joins) (ps := jp_M_joins) (nL := 2) rfl rfl (jaRun_go (jaCall_self jaAr jaMt D) [1] 4 _ _ _ _ h)
set_option maxRecDepth 20000 in
theorem jb_M_joins_1 {D : Nat} {kk : jaT → Prop} {σ : jaT} {x1 : Int32} (h :
  (((σ 20).1 70 0 47) ≤ 0 → kk σ) ∧
  (¬ ((σ 20).1 70 0 47) ≤ 0 → 
    vp_in (((σ 20).1 70 0 47) - (nI 1)) 45 ∧ ((((σ 20).1 89 0 (jaIx (((σ 20).1 70 0 47) - (nI 1)))) = (nI 21) → 
      let σ1 : jaT := jaU σ 20 (jaUI (σ 20) 70 0 47 (((σ 20).1 70 0 47) - (nI 1)))
      vp_in ((σ1 20).1 70 0 47) 45 ∧ (jaDe D) jy_M_code [.inr (.inr (70, 20, 0)), .inl ((σ1 20).1 89 0 (jaIx ((σ1 20).1 70 0 47))), .inl (nI 0), .inl (nI 0)] σ1 (jaKv fun σ2 =>
        jc_M_joins_1 D kk x1 σ2)) ∧
    (¬ ((σ 20).1 89 0 (jaIx (((σ 20).1 70 0 47) - (nI 1)))) = (nI 21) → 
      vp_in (((σ 20).1 70 0 47) - (nI 1)) 45 ∧ ((¬ ((σ 20).1 89 0 (jaIx (((σ 20).1 70 0 47) - (nI 1)))) = (nI 22) → kk σ) ∧
      (((σ 20).1 89 0 (jaIx (((σ 20).1 70 0 47) - (nI 1)))) = (nI 22) → 
        (¬ x1 = (nI 22) → kk σ) ∧
        (x1 = (nI 22) → 
          let σ3 : jaT := jaU σ 20 (jaUI (σ 20) 70 0 47 (((σ 20).1 70 0 47) - (nI 1)))
          vp_in ((σ3 20).1 70 0 47) 45 ∧ (jaDe D) jy_M_code [.inr (.inr (70, 20, 0)), .inl ((σ3 20).1 89 0 (jaIx ((σ3 20).1 70 0 47))), .inl (nI 0), .inl (nI 0)] σ3 (jaKv fun σ4 =>
            jc_M_joins_1 D kk x1 σ4)))))))) :
  jc_M_joins_1 D kk x1 σ :=
  jaRun_go (jaCall_self jaAr jaMt D) [1] 44 _ _ _ _ h
abbrev jm_M_nots : jaM := (jf_M_nots, jp_M_nots, 1)
def jc_M_nots_1 (D : Nat) (kk : jaT → Prop)  (σ : jaT) : Prop := jaC (jaDe D) jm_M_nots (jaKv kk) 1 [some (.inr (.inr (70, 20, 0)))] [] σ
theorem js_M_nots {D : Nat} {kk : jaT → Prop} {σ : jaT}  (h :
  jc_M_nots_1 D kk σ) :
  jaDe (D + 1) jy_M_nots [.inr (.inr (70, 20, 0))] σ (jaKv kk) :=
  jaCall_intro (mt := jaMt) (y := jy_M_nots) (f := jf_M_nots) (ps := jp_M_nots) (nL := 1) rfl rfl (jaRun_go (jaCall_self jaAr jaMt D) [1] 4 _ _ _ _ h)
theorem jb_M_nots_1 {D : Nat} {kk : jaT → Prop} {σ : jaT}  (h :
  (((σ 20).1 70 0 47) ≤ 0 → kk σ) ∧
  (¬ ((σ 20).1 70 0 47) ≤ 0 → 
    vp_in (((σ 20).1 70 0 47) - (nI 1)) 45 ∧ ((¬ ((σ 20).1 89 0 (jaIx (((σ 20).1 70 0 47) - (nI 1)))) = (nI 20) → kk σ) ∧
    (((σ 20).1 89 0 (jaIx (((σ 20).1 70 0 47) - (nI 1)))) = (nI 20) → 
      let σ1 : jaT := jaU σ 20 (jaUI (σ 20) 70 0 47 (((σ 20).1 70 0 47) - (nI 1)))
      let σ2 : jaT := jaU σ1 20 (jaUI (σ1 20) 70 0 48 (((σ1 20).1 70 0 48) - (nI 1)))
      (jaDe D) jy_M_code [.inr (.inr (70, 20, 0)), .inl (nI 20), .inl (nI 0), .inl (nI 0)] σ2 (jaKv fun σ3 =>
        jc_M_nots_1 D kk σ3))))) :
  jc_M_nots_1 D kk σ :=
  jaRun_go (jaCall_self jaAr jaMt D) [1] 33 _ _ _ _ h
abbrev jm_M_leafOf : jaM := (jf_M_leafOf, jp_M_leafOf, 1)
set_option maxRecDepth 20000 in
theorem js_M_leafOf {D : Nat} {kk : Int32 → jaT → Prop} {σ : jaT}  (h :
  (jaDe D) jy_M_isWord [.inr (.inr (70, 20, 0)), .inr (.inl (Int64.ofNat 33602627781095015))] σ (jaKi fun r2 σ1 =>
    (r2 = 0 → 
      (jaDe D) jy_M_isWord [.inr (.inr (70, 20, 0)), .inr (.inl (Int64.ofNat 444250812007))] σ1 (jaKi fun r4 σ3 =>
        (r4 = 0 → 
          (jaDe D) jy_M_isWord [.inr (.inr (70, 20, 0)), .inr (.inl (Int64.ofNat 1685024357))] σ3 (jaKi fun r6 σ5 =>
            (r6 = 0 → 
              (jaDe D) jy_M_isWord [.inr (.inr (70, 20, 0)), .inr (.inl (Int64.ofNat 32199698155136356))] σ5 (jaKi fun r8 σ7 =>
                (r8 = 0 → 
                  (jaDe D) jy_M_isWord [.inr (.inr (70, 20, 0)), .inr (.inl (Int64.ofNat 32497644298331492))] σ7 (jaKi fun r10 σ9 =>
                    (r10 = 0 → 
                      (jaDe D) jy_M_isWord [.inr (.inr (70, 20, 0)), .inr (.inl (Int64.ofNat 491327153273))] σ9 (jaKi fun r12 σ11 =>
                        (r12 = 0 → 
                          (jaDe D) jy_M_isWord [.inr (.inr (70, 20, 0)), .inr (.inl (Int64.ofNat 2003395685))] σ11 (jaKi fun r14 σ13 =>
                            (r14 = 0 → 
                              (jaDe D) jy_M_isWord [.inr (.inr (70, 20, 0)), .inr (.inl (Int64.ofNat 491327153267))] σ13 (jaKi fun r16 σ15 =>
                                (r16 = 0 → 
                                  (jaDe D) jy_M_isWord [.inr (.inr (70, 20, 0)), .inr (.inl (Int64.ofNat 131333279212915))] σ15 (jaKi fun r18 σ17 =>
                                    (r18 = 0 → 
                                      (jaDe D) jy_M_isWord [.inr (.inr (70, 20, 0)), .inr (.inl (Int64.ofNat 1718775661))] σ17 (jaKi fun r20 σ19 =>
                                        (r20 = 0 → 
                                          (jaDe D) jy_M_isWord [.inr (.inr (70, 20, 0)), .inr (.inl (Int64.ofNat 482854658917))] σ19 (jaKi fun r22 σ21 =>
                                            (r22 = 0 → 
                                              (jaDe D) jy_M_isWord [.inr (.inr (70, 20, 0)), .inr (.inl (Int64.ofNat 500135716211))] σ21 (jaKi fun r24 σ23 =>
                                                (r24 = 0 → 
                                                  (jaDe D) jy_M_isWord [.inr (.inr (70, 20, 0)), .inr (.inl (Int64.ofNat 500135194227))] σ23 (jaKi fun r26 σ25 =>
                                                    (r26 = 0 → kk (-1 : Int32) σ25) ∧
                                                    (¬ r26 = 0 → kk (nI 12) σ25))) ∧
                                                (¬ r24 = 0 → kk (nI 11) σ23))) ∧
                                            (¬ r22 = 0 → kk (nI 10) σ21))) ∧
                                        (¬ r20 = 0 → kk (nI 9) σ19))) ∧
                                    (¬ r18 = 0 → kk (nI 8) σ17))) ∧
                                (¬ r16 = 0 → kk (nI 7) σ15))) ∧
                            (¬ r14 = 0 → kk (nI 6) σ13))) ∧
                        (¬ r12 = 0 → kk (nI 5) σ11))) ∧
                    (¬ r10 = 0 → kk (nI 4) σ9))) ∧
                (¬ r8 = 0 → kk (nI 3) σ7))) ∧
            (¬ r6 = 0 → kk (nI 2) σ5))) ∧
        (¬ r4 = 0 → kk (nI 1) σ3))) ∧
    (¬ r2 = 0 → kk (nI 0) σ1))) :
  jaDe (D + 1) jy_M_leafOf [.inr (.inr (70, 20, 0))] σ (jaKi kk) :=
  jaCall_intro (mt := jaMt) (y := jy_M_leafOf) (f := jf_M_leafOf) (ps := jp_M_leafOf) (nL := 1) rfl rfl (jaRun_go (jaCall_self jaAr jaMt D) [] 58 _ _ _ _ h)
abbrev jm_M_operand : jaM := (jf_M_operand, jp_M_operand, 5)
def jc_M_operand_1 (D : Nat) (kk : Int32 → jaT → Prop) (x1 : Int32) (x2 : Int32) (x3 : Int32) (σ : jaT) : Prop := jaC (jaDe D) jm_M_operand (jaKi kk) 1 [some (.inr (.inr (70, 20, 0))), some (.inl x1), some (.inl x2), some (.inl x3), none] [] σ
def jc_M_operand_2 (D : Nat) (kk : Int32 → jaT → Prop) (x1 : Int32) (x2 : Int32) (x3 : Int32) (σ : jaT) : Prop := jaC (jaDe D) jm_M_operand (jaKi kk) 2 [some (.inr (.inr (70, 20, 0))), some (.inl x1), some (.inl x2), some (.inl x3), none] [] σ
def jc_M_operand_4 (D : Nat) (kk : Int32 → jaT → Prop) (x1 : Int32) (x2 : Int32) (x3 : Int32) (σ : jaT) : Prop := jaC (jaDe D) jm_M_operand (jaKi kk) 4 [some (.inr (.inr (70, 20, 0))), some (.inl x1), some (.inl x2), some (.inl x3), none] [] σ
def jc_M_operand_6 (D : Nat) (kk : Int32 → jaT → Prop) (x1 : Int32) (x2 : Int32) (x3 : Int32) (xs1 : Int32) (xs2 : Int32) (σ : jaT) : Prop := jaC (jaDe D) jm_M_operand (jaKi kk) 6 [some (.inr (.inr (70, 20, 0))), some (.inl x1), some (.inl x2), some (.inl x3), none] [.inl xs2, .inl xs1, .inr (.inr (89, 20, 0))] σ
def jc_M_operand_10 (D : Nat) (kk : Int32 → jaT → Prop) (x1 : Int32) (x2 : Int32) (x3 : Int32) (xs0 : Int32) (σ : jaT) : Prop := jaC (jaDe D) jm_M_operand (jaKi kk) 10 [some (.inr (.inr (70, 20, 0))), some (.inl x1), some (.inl x2), some (.inl x3), none] [.inl xs0] σ
def jc_M_operand_13 (D : Nat) (kk : Int32 → jaT → Prop) (x1 : Int32) (x2 : Int32) (x3 : Int32) (σ : jaT) : Prop := jaC (jaDe D) jm_M_operand (jaKi kk) 13 [some (.inr (.inr (70, 20, 0))), some (.inl x1), some (.inl x2), some (.inl x3), none] [] σ
theorem js_M_operand {D : Nat} {kk : Int32 → jaT → Prop} {σ : jaT}  (h :
  (jaDe D) jy_M_isWord [.inr (.inr (70, 20, 0)), .inr (.inl (Int64.ofNat 7237492))] σ (jaKi fun r2 σ1 =>
    (jaDe D) jy_M_isSign [.inr (.inr (70, 20, 0)), .inl (nI 40)] σ1 (jaKi fun r4 σ3 =>
      (jaDe D) jy_M_leafOf [.inr (.inr (70, 20, 0))] σ3 (jaKi fun r6 σ5 =>
        (¬ r2 = 0 → jc_M_operand_1 D kk r2 r4 r6 σ5) ∧
        (r2 = 0 → 
          (¬ r4 = 0 → jc_M_operand_1 D kk r2 r4 r6 σ5) ∧
          (r4 = 0 → 
            (0 ≤ r6 → jc_M_operand_1 D kk r2 r4 r6 σ5) ∧
            (¬ 0 ≤ r6 → 
              (jaDe D) jy_M_bad [.inr (.inr (70, 20, 0)), .inl (nI 1)] σ5 (jaKi fun r8 σ7 =>
                (r8 = 0 ∨ r8 = 1) ∧ kk r8 σ7)))))))) :
  jaDe (D + 1) jy_M_operand [.inr (.inr (70, 20, 0))] σ (jaKi kk) :=
  jaCall_intro (mt := jaMt) (y := jy_M_operand) (f := jf_M_operand) (ps := jp_M_operand) (nL := 5) rfl rfl (jaRun_go (jaCall_self jaAr jaMt D) [1, 2, 4, 6, 10, 13] 24 _ _ _ _ h)
set_option maxRecDepth 20000 in
theorem jb_M_operand_1 {D : Nat} {kk : Int32 → jaT → Prop} {σ : jaT} {x1 : Int32} {x2 : Int32} {x3 : Int32} (h :
  (((σ 20).1 70 0 46) = (nI 20) → jc_M_operand_2 D kk x1 x2 x3 σ) ∧
  (¬ ((σ 20).1 70 0 46) = (nI 20) → 
    (((σ 20).1 70 0 48) ≤ (nI 8) → 
      let σ1 : jaT := jaU σ 20 (jaUI (σ 20) 70 0 46 (((σ 20).1 70 0 46) + (nI 1)))
      (jaDe D) jy_M_next [.inr (.inr (70, 20, 0))] σ1 (jaKv fun σ2 =>
        (¬ x1 = 0 → jc_M_operand_4 D kk x1 x2 x3 σ2) ∧
        (x1 = 0 → 
          (x2 = 0 → 
            ((nI 1) = 0 ∨ (nI 1) = 1) ∧
            (let σ3 : jaT := jaU σ2 20 (jaUI (σ2 20) 70 0 49 (nI 1))
            ((nI 7) ≤ x3 → 
              ((nI 10) ≤ x3 → 
                (¬ ((σ3 20).1 70 0 14) = (nI 3) → jc_M_operand_13 D kk x1 x2 x3 σ3) ∧
                (((σ3 20).1 70 0 14) = (nI 3) → 
                  (((σ3 20).1 70 0 17) < (nI 60) → jc_M_operand_13 D kk x1 x2 x3 σ3) ∧
                  (¬ ((σ3 20).1 70 0 17) < (nI 60) → 
                    (((σ3 20).1 70 0 17) ≤ (nI 62) → 
                      (jaDe D) jy_M_next [.inr (.inr (70, 20, 0))] σ3 (jaKv fun σ4 =>
                        (((σ4 20).1 70 0 14) = (nI 2) → 
                          (jaDe D) jy_M_code [.inr (.inr (70, 20, 0)), .inl x3, .inl ((σ3 20).1 70 0 17), .inl ((σ4 20).1 70 0 17)] σ4 (jaKv fun σ5 =>
                            (jaDe D) jy_M_next [.inr (.inr (70, 20, 0))] σ5 (jaKv fun σ6 =>
                              ((nI 1) = 0 ∨ (nI 1) = 1) ∧ kk (nI 1) σ6))) ∧
                        (¬ ((σ4 20).1 70 0 14) = (nI 2) → 
                          (jaDe D) jy_M_bad [.inr (.inr (70, 20, 0)), .inl (nI 1)] σ4 (jaKi fun r8 σ7 =>
                            (r8 = 0 ∨ r8 = 1) ∧ kk r8 σ7)))) ∧
                    (¬ ((σ3 20).1 70 0 17) ≤ (nI 62) → jc_M_operand_13 D kk x1 x2 x3 σ3)))) ∧
              (¬ (nI 10) ≤ x3 → 
                ((nI 9) ≤ x3 → 
                  vp_in (nI 0) 706 ∧ (jaDe D) jy_M_looksAt [.inr (.inr (70, 20, 0)), .inl (nI 0), .inl ((σ3 20).1 72 0 (jaIx (nI 0)))] σ3 (jaKi fun r10 σ9 =>
                    jc_M_operand_10 D kk x1 x2 x3 r10 σ9)) ∧
                (¬ (nI 9) ≤ x3 → 
                  vp_in (nI 1) 706 ∧ (jaDe D) jy_M_looksAt [.inr (.inr (70, 20, 0)), .inl (nI 3), .inl ((σ3 20).1 72 0 (jaIx (nI 1)))] σ3 (jaKi fun r12 σ11 =>
                    jc_M_operand_10 D kk x1 x2 x3 r12 σ11)))) ∧
            (¬ (nI 7) ≤ x3 → 
              (jaDe D) jy_M_code [.inr (.inr (70, 20, 0)), .inl x3, .inl (nI 0), .inl (nI 0)] σ3 (jaKv fun σ13 =>
                ((nI 1) = 0 ∨ (nI 1) = 1) ∧ kk (nI 1) σ13)))) ∧
          (¬ x2 = 0 → jc_M_operand_4 D kk x1 x2 x3 σ2)))) ∧
    (¬ ((σ 20).1 70 0 48) ≤ (nI 8) → jc_M_operand_2 D kk x1 x2 x3 σ))) :
  jc_M_operand_1 D kk x1 x2 x3 σ :=
  jaRun_go (jaCall_self jaAr jaMt D) [1, 2, 4, 6, 10, 13] 63 _ _ _ _ h
theorem jb_M_operand_2 {D : Nat} {kk : Int32 → jaT → Prop} {σ : jaT} {x1 : Int32} {x2 : Int32} {x3 : Int32} (h :
  (jaDe D) jy_M_bad [.inr (.inr (70, 20, 0)), .inl (nI 4)] σ (jaKi fun r2 σ1 =>
    (r2 = 0 ∨ r2 = 1) ∧ kk r2 σ1)) :
  jc_M_operand_2 D kk x1 x2 x3 σ :=
  jaRun_go (jaCall_self jaAr jaMt D) [1, 2, 4, 6, 10, 13] 7 _ _ _ _ h
theorem jb_M_operand_4 {D : Nat} {kk : Int32 → jaT → Prop} {σ : jaT} {x1 : Int32} {x2 : Int32} {x3 : Int32} (h :
  (x1 = 0 → jc_M_operand_6 D kk x1 x2 x3 ((σ 20).1 70 0 47) (nI 23) σ) ∧
  (¬ x1 = 0 → jc_M_operand_6 D kk x1 x2 x3 ((σ 20).1 70 0 47) (nI 20) σ)) :
  jc_M_operand_4 D kk x1 x2 x3 σ :=
  jaRun_go (jaCall_self jaAr jaMt D) [1, 2, 4, 6, 10, 13] 11 _ _ _ _ h
theorem jb_M_operand_6 {D : Nat} {kk : Int32 → jaT → Prop} {σ : jaT} {x1 : Int32} {x2 : Int32} {x3 : Int32} {xs1 : Int32} {xs2 : Int32} (h :
  vp_in xs1 45 ∧ 
  (let σ1 : jaT := jaU σ 20 (jaUI (σ 20) 89 0 (jaIx xs1) xs2)
  let σ2 : jaT := jaU σ1 20 (jaUI (σ1 20) 70 0 47 (((σ1 20).1 70 0 47) + (nI 1)))
  let σ3 : jaT := jaU σ2 20 (jaUI (σ2 20) 70 0 48 (((σ2 20).1 70 0 48) + (nI 1)))
  ((nI 1) = 0 ∨ (nI 1) = 1) ∧ kk (nI 1) σ3)) :
  jc_M_operand_6 D kk x1 x2 x3 xs1 xs2 σ :=
  jaRun_go (jaCall_self jaAr jaMt D) [1, 2, 4, 6, 10, 13] 18 _ _ _ _ h
theorem jb_M_operand_10 {D : Nat} {kk : Int32 → jaT → Prop} {σ : jaT} {x1 : Int32} {x2 : Int32} {x3 : Int32} {xs0 : Int32} (h :
  (¬ xs0 = 0 → 
    (jaDe D) jy_M_code [.inr (.inr (70, 20, 0)), .inl x3, .inl (nI 0), .inl ((σ 20).1 70 0 21)] σ (jaKv fun σ1 =>
      (jaDe D) jy_M_next [.inr (.inr (70, 20, 0))] σ1 (jaKv fun σ2 =>
        ((nI 1) = 0 ∨ (nI 1) = 1) ∧ kk (nI 1) σ2))) ∧
  (xs0 = 0 → ((nI 0) = 0 ∨ (nI 0) = 1) ∧ kk (nI 0) σ)) :
  jc_M_operand_10 D kk x1 x2 x3 xs0 σ :=
  jaRun_go (jaCall_self jaAr jaMt D) [1, 2, 4, 6, 10, 13] 16 _ _ _ _ h
theorem jb_M_operand_13 {D : Nat} {kk : Int32 → jaT → Prop} {σ : jaT} {x1 : Int32} {x2 : Int32} {x3 : Int32} (h :
  (jaDe D) jy_M_bad [.inr (.inr (70, 20, 0)), .inl (nI 1)] σ (jaKi fun r2 σ1 =>
    (r2 = 0 ∨ r2 = 1) ∧ kk r2 σ1)) :
  jc_M_operand_13 D kk x1 x2 x3 σ :=
  jaRun_go (jaCall_self jaAr jaMt D) [1, 2, 4, 6, 10, 13] 7 _ _ _ _ h
abbrev jm_M_behind : jaM := (jf_M_behind, jp_M_behind, 1)
def jc_M_behind_1 (D : Nat) (kk : Int32 → jaT → Prop)  (σ : jaT) : Prop := jaC (jaDe D) jm_M_behind (jaKi kk) 1 [some (.inr (.inr (70, 20, 0)))] [] σ
def jc_M_behind_3 (D : Nat) (kk : Int32 → jaT → Prop) (xs1 : Int32) (σ : jaT) : Prop := jaC (jaDe D) jm_M_behind (jaKi kk) 3 [some (.inr (.inr (70, 20, 0)))] [.inl xs1, .inr (.inr (70, 20, 0))] σ
def jc_M_behind_5 (D : Nat) (kk : Int32 → jaT → Prop) (xs1 : Int32) (xs2 : Int32) (σ : jaT) : Prop := jaC (jaDe D) jm_M_behind (jaKi kk) 5 [some (.inr (.inr (70, 20, 0)))] [.inl xs2, .inl xs1, .inr (.inr (89, 20, 0))] σ
def jc_M_behind_7 (D : Nat) (kk : Int32 → jaT → Prop)  (σ : jaT) : Prop := jaC (jaDe D) jm_M_behind (jaKi kk) 7 [some (.inr (.inr (70, 20, 0)))] [] σ
theorem js_M_behind {D : Nat} {kk : Int32 → jaT → Prop} {σ : jaT}  (h :
  (jaDe D) jy_M_nots [.inr (.inr (70, 20, 0))] σ (jaKv fun σ1 =>
    (jaDe D) jy_M_isWord [.inr (.inr (70, 20, 0)), .inr (.inl (Int64.ofNat 6385252))] σ1 (jaKi fun r3 σ2 =>
      (¬ r3 = 0 → jc_M_behind_1 D kk σ2) ∧
      (r3 = 0 → 
        (jaDe D) jy_M_isWord [.inr (.inr (70, 20, 0)), .inr (.inl (Int64.ofNat 28530))] σ2 (jaKi fun r5 σ4 =>
          (r5 = 0 → 
            (jaDe D) jy_M_joins [.inr (.inr (70, 20, 0)), .inl (nI 22)] σ4 (jaKv fun σ6 =>
              (jaDe D) jy_M_isSign [.inr (.inr (70, 20, 0)), .inl (nI 41)] σ6 (jaKi fun r8 σ7 =>
                (r8 = 0 → jc_M_behind_7 D kk σ7) ∧
                (¬ r8 = 0 → 
                  (¬ ((σ7 20).1 70 0 47) = 0 → 
                    let σ9 : jaT := jaU σ7 20 (jaUI (σ7 20) 70 0 47 (((σ7 20).1 70 0 47) - (nI 1)))
                    let σ10 : jaT := jaU σ9 20 (jaUI (σ9 20) 70 0 48 (((σ9 20).1 70 0 48) - (nI 1)))
                    (jaDe D) jy_M_next [.inr (.inr (70, 20, 0))] σ10 (jaKv fun σ11 =>
                      ((nI 1) = 0 ∨ (nI 1) = 1) ∧ kk (nI 1) σ11)) ∧
                  (((σ7 20).1 70 0 47) = 0 → jc_M_behind_7 D kk σ7))))) ∧
          (¬ r5 = 0 → jc_M_behind_1 D kk σ4)))))) :
  jaDe (D + 1) jy_M_behind [.inr (.inr (70, 20, 0))] σ (jaKi kk) :=
  jaCall_intro (mt := jaMt) (y := jy_M_behind) (f := jf_M_behind) (ps := jp_M_behind) (nL := 1) rfl rfl (jaRun_go (jaCall_self jaAr jaMt D) [1, 3, 5, 7] 39 _ _ _ _ h)
theorem jb_M_behind_1 {D : Nat} {kk : Int32 → jaT → Prop} {σ : jaT}  (h :
  (jaDe D) jy_M_isWord [.inr (.inr (70, 20, 0)), .inr (.inl (Int64.ofNat 6385252))] σ (jaKi fun r2 σ1 =>
    (r2 = 0 → jc_M_behind_3 D kk (nI 22) σ1) ∧
    (¬ r2 = 0 → jc_M_behind_3 D kk (nI 21) σ1))) :
  jc_M_behind_1 D kk σ :=
  jaRun_go (jaCall_self jaAr jaMt D) [1, 3, 5, 7] 10 _ _ _ _ h
theorem jb_M_behind_3 {D : Nat} {kk : Int32 → jaT → Prop} {σ : jaT} {xs1 : Int32} (h :
  (jaDe D) jy_M_joins [.inr (.inr (70, 20, 0)), .inl xs1] σ (jaKv fun σ1 =>
    (jaDe D) jy_M_isWord [.inr (.inr (70, 20, 0)), .inr (.inl (Int64.ofNat 6385252))] σ1 (jaKi fun r3 σ2 =>
      (r3 = 0 → jc_M_behind_5 D kk ((σ1 20).1 70 0 47) (nI 22) σ2) ∧
      (¬ r3 = 0 → jc_M_behind_5 D kk ((σ1 20).1 70 0 47) (nI 21) σ2)))) :
  jc_M_behind_3 D kk xs1 σ :=
  jaRun_go (jaCall_self jaAr jaMt D) [1, 3, 5, 7] 14 _ _ _ _ h
theorem jb_M_behind_5 {D : Nat} {kk : Int32 → jaT → Prop} {σ : jaT} {xs1 : Int32} {xs2 : Int32} (h :
  vp_in xs1 45 ∧ 
  (let σ1 : jaT := jaU σ 20 (jaUI (σ 20) 89 0 (jaIx xs1) xs2)
  let σ2 : jaT := jaU σ1 20 (jaUI (σ1 20) 70 0 47 (((σ1 20).1 70 0 47) + (nI 1)))
  ((nI 0) = 0 ∨ (nI 0) = 1) ∧
  (let σ3 : jaT := jaU σ2 20 (jaUI (σ2 20) 70 0 49 (nI 0))
  (jaDe D) jy_M_next [.inr (.inr (70, 20, 0))] σ3 (jaKv fun σ4 =>
    ((nI 1) = 0 ∨ (nI 1) = 1) ∧ kk (nI 1) σ4)))) :
  jc_M_behind_5 D kk xs1 xs2 σ :=
  jaRun_go (jaCall_self jaAr jaMt D) [1, 3, 5, 7] 17 _ _ _ _ h
theorem jb_M_behind_7 {D : Nat} {kk : Int32 → jaT → Prop} {σ : jaT}  (h :
  (jaDe D) jy_M_bad [.inr (.inr (70, 20, 0)), .inl (nI 1)] σ (jaKi fun r2 σ1 =>
    (r2 = 0 ∨ r2 = 1) ∧ kk r2 σ1)) :
  jc_M_behind_7 D kk σ :=
  jaRun_go (jaCall_self jaAr jaMt D) [1, 3, 5, 7] 7 _ _ _ _ h
abbrev jm_M_sentence : jaM := (jf_M_sentence, jp_M_sentence, 3)
def jc_M_sentence_1 (D : Nat) (kk : Int32 → jaT → Prop) (x1 : Int32) (σ : jaT) : Prop := jaC (jaDe D) jm_M_sentence (jaKi kk) 1 [some (.inr (.inr (70, 20, 0))), some (.inl x1), none] [] σ
def jc_M_sentence_7 (D : Nat) (kk : Int32 → jaT → Prop) (x1 : Int32) (x2 : Int32) (σ : jaT) : Prop := jaC (jaDe D) jm_M_sentence (jaKi kk) 7 [some (.inr (.inr (70, 20, 0))), some (.inl x1), some (.inl x2)] [] σ
theorem js_M_sentence {D : Nat} {kk : Int32 → jaT → Prop} {σ : jaT}  (h :
  let σ1 : jaT := jaU σ 20 (jaUI (σ 20) 70 0 0 (nI 0))
  (jaDe D) jy_M_taken [.inr (.inr (70, 20, 0)), .inl (nI 200)] σ1 (jaKv fun σ2 =>
    let σ3 : jaT := jaU σ2 20 (jaUI (σ2 20) 70 0 18 (nI 0))
    let σ4 : jaT := jaU σ3 20 (jaUI (σ3 20) 70 0 45 (nI 0))
    let σ5 : jaT := jaU σ4 20 (jaUI (σ4 20) 70 0 46 (nI 0))
    let σ6 : jaT := jaU σ5 20 (jaUI (σ5 20) 70 0 47 (nI 0))
    let σ7 : jaT := jaU σ6 20 (jaUI (σ6 20) 70 0 48 (nI 1))
    ((nI 0) = 0 ∨ (nI 0) = 1) ∧
    (let σ8 : jaT := jaU σ7 20 (jaUI (σ7 20) 70 0 49 (nI 0))
    (jaDe D) jy_M_next [.inr (.inr (70, 20, 0))] σ8 (jaKv fun σ9 =>
      jc_M_sentence_1 D kk (nI 1) σ9)))) :
  jaDe (D + 1) jy_M_sentence [.inr (.inr (70, 20, 0))] σ (jaKi kk) :=
  jaCall_intro (mt := jaMt) (y := jy_M_sentence) (f := jf_M_sentence) (ps := jp_M_sentence) (nL := 3) rfl rfl (jaRun_go (jaCall_self jaAr jaMt D) [1, 7] 32 _ _ _ _ h)
theorem jb_M_sentence_1 {D : Nat} {kk : Int32 → jaT → Prop} {σ : jaT} {x1 : Int32} (h :
  (x1 = 0 → 
    vp_in (nI 525) 706 ∧ 
    (let σ1 : jaT := jaU σ 20 (jaUI (σ 20) 72 0 (jaIx (nI 525)) ((σ 20).1 70 0 45))
    jc_M_sentence_7 D kk x1 (nI 0) σ1)) ∧
  (¬ x1 = 0 → 
    (((σ 20).1 70 0 49) = 0 → 
      (((σ 20).1 70 0 49) = 0 → 
        (jaDe D) jy_M_operand [.inr (.inr (70, 20, 0))] σ (jaKi fun r3 σ2 =>
          (¬ r3 = 0 → jc_M_sentence_1 D kk x1 σ2) ∧
          (r3 = 0 → kk ((-1 : Int32) - ((σ2 20).1 70 0 19)) σ2))) ∧
      (¬ ((σ 20).1 70 0 49) = 0 → 
        (jaDe D) jy_M_behind [.inr (.inr (70, 20, 0))] σ (jaKi fun r5 σ4 =>
          (¬ r5 = 0 → jc_M_sentence_1 D kk x1 σ4) ∧
          (r5 = 0 → kk ((-1 : Int32) - ((σ4 20).1 70 0 19)) σ4)))) ∧
    (¬ ((σ 20).1 70 0 49) = 0 → 
      (¬ ((σ 20).1 70 0 14) = 0 → 
        (((σ 20).1 70 0 49) = 0 → 
          (jaDe D) jy_M_operand [.inr (.inr (70, 20, 0))] σ (jaKi fun r7 σ6 =>
            (¬ r7 = 0 → jc_M_sentence_1 D kk x1 σ6) ∧
            (r7 = 0 → kk ((-1 : Int32) - ((σ6 20).1 70 0 19)) σ6))) ∧
        (¬ ((σ 20).1 70 0 49) = 0 → 
          (jaDe D) jy_M_behind [.inr (.inr (70, 20, 0))] σ (jaKi fun r9 σ8 =>
            (¬ r9 = 0 → jc_M_sentence_1 D kk x1 σ8) ∧
            (r9 = 0 → kk ((-1 : Int32) - ((σ8 20).1 70 0 19)) σ8)))) ∧
      (((σ 20).1 70 0 14) = 0 → 
        (jaDe D) jy_M_nots [.inr (.inr (70, 20, 0))] σ (jaKv fun σ10 =>
          (jaDe D) jy_M_joins [.inr (.inr (70, 20, 0)), .inl (nI 22)] σ10 (jaKv fun σ11 =>
            (((σ11 20).1 70 0 47) ≤ 0 → jc_M_sentence_1 D kk (nI 0) σ11) ∧
            (¬ ((σ11 20).1 70 0 47) ≤ 0 → 
              (jaDe D) jy_M_bad [.inr (.inr (70, 20, 0)), .inl (nI 1)] σ11 (jaKi fun r13 σ12 =>
                kk ((-1 : Int32) - ((σ12 20).1 70 0 19)) σ12)))))))) :
  jc_M_sentence_1 D kk x1 σ :=
  jaRun_go (jaCall_self jaAr jaMt D) [1, 7] 28 _ _ _ _ h
theorem jb_M_sentence_7 {D : Nat} {kk : Int32 → jaT → Prop} {σ : jaT} {x1 : Int32} {x2 : Int32} (h :
  (((nI 3) * ((σ 20).1 70 0 45)) ≤ x2 → kk ((σ 20).1 70 0 46) σ) ∧
  (¬ ((nI 3) * ((σ 20).1 70 0 45)) ≤ x2 → 
    vp_in x2 135 ∧ (vp_in ((nI 526) + x2) 706 ∧ 
    (let σ1 : jaT := jaU σ 20 (jaUI (σ 20) 72 0 (jaIx ((nI 526) + x2)) ((σ 20).1 74 0 (jaIx x2)))
    jc_M_sentence_7 D kk x1 (x2 + (nI 1)) σ1)))) :
  jc_M_sentence_7 D kk x1 x2 σ :=
  jaRun_go (jaCall_self jaAr jaMt D) [1, 7] 21 _ _ _ _ h
abbrev jm_M_isLeaf : jaM := (jf_M_isLeaf, jp_M_isLeaf, 6)
theorem js_M_isLeaf {D : Nat} {kk : Int32 → jaT → Prop} {σ : jaT} {x1 : Int32} {x2 : Int32} {x3 : Int32} {x4 : Int32} (h :
  ((nI 5) ≤ x2 → 
    (x2.toInt < 5 ∨ 9 < x2.toInt → 
      (¬ x2 = (nI 10) → 
        (¬ x2 = (nI 11) → 
          (jaDe D) jy_M_idAt [.inr (.inr (70, 20, 0)), .inl x1] σ (jaKi fun r2 σ1 =>
            vp_in ((nI 9) * r2) 576 ∧ ((¬ x3 = (nI 60) → 
              (¬ x3 = (nI 61) → 
                (((σ1 20).1 76 0 (jaIx ((nI 9) * r2))) ≤ x4 → ((nI 0) = 0 ∨ (nI 0) = 1) ∧ kk (nI 0) σ1) ∧
                (¬ ((σ1 20).1 76 0 (jaIx ((nI 9) * r2))) ≤ x4 → ((nI 1) = 0 ∨ (nI 1) = 1) ∧ kk (nI 1) σ1)) ∧
              (x3 = (nI 61) → 
                (¬ ((σ1 20).1 76 0 (jaIx ((nI 9) * r2))) = x4 → ((nI 0) = 0 ∨ (nI 0) = 1) ∧ kk (nI 0) σ1) ∧
                (((σ1 20).1 76 0 (jaIx ((nI 9) * r2))) = x4 → ((nI 1) = 0 ∨ (nI 1) = 1) ∧ kk (nI 1) σ1))) ∧
            (x3 = (nI 60) → 
              (x4 ≤ ((σ1 20).1 76 0 (jaIx ((nI 9) * r2))) → ((nI 0) = 0 ∨ (nI 0) = 1) ∧ kk (nI 0) σ1) ∧
              (¬ x4 ≤ ((σ1 20).1 76 0 (jaIx ((nI 9) * r2))) → ((nI 1) = 0 ∨ (nI 1) = 1) ∧ kk (nI 1) σ1))))) ∧
        (x2 = (nI 11) → 
          (jaDe D) jy_M_idAt [.inr (.inr (70, 20, 0)), .inl x1] σ (jaKi fun r4 σ3 =>
            vp_in ((nI 9) * r4) 576 ∧ ((jaDe D) jy_M_entriesOf [.inr (.inr (70, 20, 0)), .inl ((σ3 20).1 76 0 (jaIx ((nI 9) * r4)))] σ3 (jaKi fun r6 σ5 =>
              (¬ x3 = (nI 60) → 
                (¬ x3 = (nI 61) → 
                  (r6 ≤ x4 → ((nI 0) = 0 ∨ (nI 0) = 1) ∧ kk (nI 0) σ5) ∧
                  (¬ r6 ≤ x4 → ((nI 1) = 0 ∨ (nI 1) = 1) ∧ kk (nI 1) σ5)) ∧
                (x3 = (nI 61) → 
                  (¬ r6 = x4 → ((nI 0) = 0 ∨ (nI 0) = 1) ∧ kk (nI 0) σ5) ∧
                  (r6 = x4 → ((nI 1) = 0 ∨ (nI 1) = 1) ∧ kk (nI 1) σ5))) ∧
              (x3 = (nI 60) → 
                (x4 ≤ r6 → ((nI 0) = 0 ∨ (nI 0) = 1) ∧ kk (nI 0) σ5) ∧
                (¬ x4 ≤ r6 → ((nI 1) = 0 ∨ (nI 1) = 1) ∧ kk (nI 1) σ5))))))) ∧
      (x2 = (nI 10) → 
        (¬ x3 = (nI 60) → 
          (¬ x3 = (nI 61) → 
            (x1 ≤ x4 → ((nI 0) = 0 ∨ (nI 0) = 1) ∧ kk (nI 0) σ) ∧
            (¬ x1 ≤ x4 → ((nI 1) = 0 ∨ (nI 1) = 1) ∧ kk (nI 1) σ)) ∧
          (x3 = (nI 61) → 
            (¬ x1 = x4 → ((nI 0) = 0 ∨ (nI 0) = 1) ∧ kk (nI 0) σ) ∧
            (x1 = x4 → ((nI 1) = 0 ∨ (nI 1) = 1) ∧ kk (nI 1) σ))) ∧
        (x3 = (nI 60) → 
          (x4 ≤ x1 → ((nI 0) = 0 ∨ (nI 0) = 1) ∧ kk (nI 0) σ) ∧
          (¬ x4 ≤ x1 → ((nI 1) = 0 ∨ (nI 1) = 1) ∧ kk (nI 1) σ)))) ∧
    (x2 = nI 5 → 
      (jaDe D) jy_M_isReady [.inr (.inr (70, 20, 0)), .inl (nI 0), .inl x1] σ (jaKi fun r8 σ7 =>
        (r8 = 0 ∨ r8 = 1) ∧ kk r8 σ7)) ∧
    (x2 = nI 6 → 
      (jaDe D) jy_M_isWide [.inr (.inr (70, 20, 0)), .inl x1] σ (jaKi fun r10 σ9 =>
        (r10 = 0 ∨ r10 = 1) ∧ kk r10 σ9)) ∧
    (x2 = nI 7 → 
      (jaDe D) jy_M_readsOf [.inr (.inr (70, 20, 0)), .inl x1] σ (jaKi fun r12 σ11 =>
        (jaDe D) jy_M_bitOf [.inl r12, .inl x4] σ11 (jaKi fun r14 σ13 =>
          (r14 = 0 ∨ r14 = 1) ∧ kk r14 σ13))) ∧
    (x2 = nI 8 → 
      (jaDe D) jy_M_writesOf [.inr (.inr (70, 20, 0)), .inl x1] σ (jaKi fun r16 σ15 =>
        (jaDe D) jy_M_bitOf [.inl r16, .inl x4] σ15 (jaKi fun r18 σ17 =>
          (r18 = 0 ∨ r18 = 1) ∧ kk r18 σ17))) ∧
    (x2 = nI 9 → 
      (jaDe D) jy_M_idAt [.inr (.inr (70, 20, 0)), .inl x1] σ (jaKi fun r20 σ19 =>
        vp_in (((nI 9) * r20) + (nI 1)) 576 ∧ ((¬ ((σ19 20).1 76 0 (jaIx (((nI 9) * r20) + (nI 1)))) = x4 → ((nI 0) = 0 ∨ (nI 0) = 1) ∧ kk (nI 0) σ19) ∧
        (((σ19 20).1 76 0 (jaIx (((nI 9) * r20) + (nI 1)))) = x4 → ((nI 1) = 0 ∨ (nI 1) = 1) ∧ kk (nI 1) σ19)))) ∧ True) ∧
  (¬ (nI 5) ≤ x2 → 
    (jaDe D) jy_M_howIn [.inr (.inr (70, 20, 0)), .inl (nI 0), .inl x1] σ (jaKi fun r22 σ21 =>
      (¬ r22 = x2 → ((nI 0) = 0 ∨ (nI 0) = 1) ∧ kk (nI 0) σ21) ∧
      (r22 = x2 → ((nI 1) = 0 ∨ (nI 1) = 1) ∧ kk (nI 1) σ21)))) :
  jaDe (D + 1) jy_M_isLeaf [.inr (.inr (70, 20, 0)), .inl x1, .inl x2, .inl x3, .inl x4] σ (jaKi kk) :=
  jaCall_intro (mt := jaMt) (y := jy_M_isLeaf) (f := jf_M_isLeaf) (ps := jp_M_isLeaf) (nL := 6) rfl rfl (jaRun_go (jaCall_self jaAr jaMt D) [] 38 _ _ _ _ h)
abbrev jm_M_isSaid : jaM := (jf_M_isSaid, jp_M_isSaid, 5)
def jc_M_isSaid_1 (D : Nat) (kk : Int32 → jaT → Prop) (x1 : Int32) (x2 : Int32) (x3 : Int32) (u4 : Option jaV) (σ : jaT) : Prop := jaC (jaDe D) jm_M_isSaid (jaKi kk) 1 [some (.inr (.inr (70, 20, 0))), some (.inl x1), some (.inl x2), some (.inl x3), u4] [] σ
def jc_M_isSaid_3 (D : Nat) (kk : Int32 → jaT → Prop) (x1 : Int32) (x2 : Int32) (x3 : Int32) (x4 : Int32) (xs1 : Int32) (xs2 : Int32) (σ : jaT) : Prop := jaC (jaDe D) jm_M_isSaid (jaKi kk) 3 [some (.inr (.inr (70, 20, 0))), some (.inl x1), some (.inl x2), some (.inl x3), some (.inl x4)] [.inl xs2, .inl xs1, .inr (.inr (90, 20, 0))] σ
def jc_M_isSaid_5 (D : Nat) (kk : Int32 → jaT → Prop) (x1 : Int32) (x2 : Int32) (x3 : Int32) (x4 : Int32) (σ : jaT) : Prop := jaC (jaDe D) jm_M_isSaid (jaKi kk) 5 [some (.inr (.inr (70, 20, 0))), some (.inl x1), some (.inl x2), some (.inl x3), some (.inl x4)] [] σ
def jc_M_isSaid_6 (D : Nat) (kk : Int32 → jaT → Prop) (x1 : Int32) (x2 : Int32) (x3 : Int32) (x4 : Int32) (xs1 : Int32) (σ : jaT) : Prop := jaC (jaDe D) jm_M_isSaid (jaKi kk) 6 [some (.inr (.inr (70, 20, 0))), some (.inl x1), some (.inl x2), some (.inl x3), some (.inl x4)] [.inl xs1, .inr (.inr (90, 20, 0))] σ
def jc_M_isSaid_8 (D : Nat) (kk : Int32 → jaT → Prop) (x1 : Int32) (x2 : Int32) (x3 : Int32) (x4 : Int32) (xs1 : Int32) (σ : jaT) : Prop := jaC (jaDe D) jm_M_isSaid (jaKi kk) 8 [some (.inr (.inr (70, 20, 0))), some (.inl x1), some (.inl x2), some (.inl x3), some (.inl x4)] [.inl xs1, .inr (.inr (90, 20, 0))] σ
def jc_M_isSaid_10 (D : Nat) (kk : Int32 → jaT → Prop) (x1 : Int32) (x2 : Int32) (x3 : Int32) (x4 : Int32) (xs1 : Int32) (xs2 : Int32) (σ : jaT) : Prop := jaC (jaDe D) jm_M_isSaid (jaKi kk) 10 [some (.inr (.inr (70, 20, 0))), some (.inl x1), some (.inl x2), some (.inl x3), some (.inl x4)] [.inl xs2, .inl xs1, .inr (.inr (90, 20, 0))] σ
def jc_M_isSaid_12 (D : Nat) (kk : Int32 → jaT → Prop) (x1 : Int32) (x2 : Int32) (x3 : Int32) (x4 : Int32) (σ : jaT) : Prop := jaC (jaDe D) jm_M_isSaid (jaKi kk) 12 [some (.inr (.inr (70, 20, 0))), some (.inl x1), some (.inl x2), some (.inl x3), some (.inl x4)] [] σ
theorem js_M_isSaid {D : Nat} {kk : Int32 → jaT → Prop} {σ : jaT} {x1 : Int32} (h :
  jc_M_isSaid_1 D kk x1 (nI 0) (nI 0) none σ) :
  jaDe (D + 1) jy_M_isSaid [.inr (.inr (70, 20, 0)), .inl x1] σ (jaKi kk) :=
  jaCall_intro (mt := jaMt) (y := jy_M_isSaid) (f := jf_M_isSaid) (ps := jp_M_isSaid) (nL := 5) rfl rfl (jaRun_go (jaCall_self jaAr jaMt D) [1, 3, 5, 6, 8, 10, 12] 8 _ _ _ _ h)
set_option maxRecDepth 20000 in
theorem jb_M_isSaid_1 {D : Nat} {kk : Int32 → jaT → Prop} {σ : jaT} {x1 : Int32} {x2 : Int32} {x3 : Int32} {u4 : Option jaV} (h :
  vp_in (nI 525) 706 ∧ ((((σ 20).1 72 0 (jaIx (nI 525))) ≤ x3 → 
    vp_in (nI 0) 45 ∧ ((((σ 20).1 90 0 (jaIx (nI 0))) = 0 ∨ ((σ 20).1 90 0 (jaIx (nI 0))) = 1) ∧ kk ((σ 20).1 90 0 (jaIx (nI 0))) σ)) ∧
  (¬ ((σ 20).1 72 0 (jaIx (nI 525))) ≤ x3 → 
    vp_in ((nI 526) + ((nI 3) * x3)) 706 ∧ ((¬ ((σ 20).1 72 0 (jaIx ((nI 526) + ((nI 3) * x3)))) = (nI 20) → 
      vp_in ((nI 526) + ((nI 3) * x3)) 706 ∧ ((((σ 20).1 72 0 (jaIx ((nI 526) + ((nI 3) * x3)))) = (nI 21) → jc_M_isSaid_5 D kk x1 x2 x3 ((nI 526) + ((nI 3) * x3)) σ) ∧
      (¬ ((σ 20).1 72 0 (jaIx ((nI 526) + ((nI 3) * x3)))) = (nI 21) → 
        vp_in ((nI 526) + ((nI 3) * x3)) 706 ∧ ((¬ ((σ 20).1 72 0 (jaIx ((nI 526) + ((nI 3) * x3)))) = (nI 22) → 
          vp_in ((nI 526) + ((nI 3) * x3)) 706 ∧ (vp_in (((nI 526) + ((nI 3) * x3)) + (nI 1)) 706 ∧ (vp_in (((nI 526) + ((nI 3) * x3)) + (nI 2)) 706 ∧ ((jaDe D) jy_M_isLeaf [.inr (.inr (70, 20, 0)), .inl x1, .inl ((σ 20).1 72 0 (jaIx ((nI 526) + ((nI 3) * x3)))), .inl ((σ 20).1 72 0 (jaIx (((nI 526) + ((nI 3) * x3)) + (nI 1)))), .inl ((σ 20).1 72 0 (jaIx (((nI 526) + ((nI 3) * x3)) + (nI 2))))] σ (jaKi fun r2 σ1 =>
            vp_in x2 45 ∧ (r2 = 0 ∨ r2 = 1) ∧ 
            (let σ3 : jaT := jaU σ1 20 (jaUI (σ1 20) 90 0 (jaIx x2) r2)
            jc_M_isSaid_12 D kk x1 (x2 + (nI 1)) x3 ((nI 526) + ((nI 3) * x3)) σ3)))))) ∧
        (((σ 20).1 72 0 (jaIx ((nI 526) + ((nI 3) * x3)))) = (nI 22) → jc_M_isSaid_5 D kk x1 x2 x3 ((nI 526) + ((nI 3) * x3)) σ))))) ∧
    (((σ 20).1 72 0 (jaIx ((nI 526) + ((nI 3) * x3)))) = (nI 20) → 
      vp_in (x2 - (nI 1)) 45 ∧ ((¬ ((σ 20).1 90 0 (jaIx (x2 - (nI 1)))) = 0 → 
        jc_M_isSaid_3 D kk x1 x2 x3 ((nI 526) + ((nI 3) * x3)) (x2 - (nI 1)) (nI 0) σ) ∧
      (((σ 20).1 90 0 (jaIx (x2 - (nI 1)))) = 0 → 
        jc_M_isSaid_3 D kk x1 x2 x3 ((nI 526) + ((nI 3) * x3)) (x2 - (nI 1)) (nI 1) σ))))))) :
  jc_M_isSaid_1 D kk x1 x2 x3 u4 σ :=
  jaRun_go (jaCall_self jaAr jaMt D) [1, 3, 5, 6, 8, 10, 12] 58 _ _ _ _ h
theorem jb_M_isSaid_3 {D : Nat} {kk : Int32 → jaT → Prop} {σ : jaT} {x1 : Int32} {x2 : Int32} {x3 : Int32} {x4 : Int32} {xs1 : Int32} {xs2 : Int32} (h :
  vp_in xs1 45 ∧ (xs2 = 0 ∨ xs2 = 1) ∧ 
  (let σ1 : jaT := jaU σ 20 (jaUI (σ 20) 90 0 (jaIx xs1) xs2)
  jc_M_isSaid_12 D kk x1 x2 x3 x4 σ1)) :
  jc_M_isSaid_3 D kk x1 x2 x3 x4 xs1 xs2 σ :=
  jaRun_go (jaCall_self jaAr jaMt D) [1, 3, 5, 6, 8, 10, 12] 5 _ _ _ _ h
theorem jb_M_isSaid_5 {D : Nat} {kk : Int32 → jaT → Prop} {σ : jaT} {x1 : Int32} {x2 : Int32} {x3 : Int32} {x4 : Int32} (h :
  vp_in x4 706 ∧ ((¬ ((σ 20).1 72 0 (jaIx x4)) = (nI 21) → 
    vp_in ((x2 + (-1 : Int32)) - (nI 1)) 45 ∧ ((¬ ((σ 20).1 90 0 (jaIx ((x2 + (-1 : Int32)) - (nI 1)))) = 0 → 
      jc_M_isSaid_8 D kk x1 (x2 + (-1 : Int32)) x3 x4 ((x2 + (-1 : Int32)) - (nI 1)) σ) ∧
    (((σ 20).1 90 0 (jaIx ((x2 + (-1 : Int32)) - (nI 1)))) = 0 → 
      vp_in (x2 + (-1 : Int32)) 45 ∧ ((((σ 20).1 90 0 (jaIx (x2 + (-1 : Int32)))) = 0 → 
        jc_M_isSaid_10 D kk x1 (x2 + (-1 : Int32)) x3 x4 ((x2 + (-1 : Int32)) - (nI 1)) (nI 0) σ) ∧
      (¬ ((σ 20).1 90 0 (jaIx (x2 + (-1 : Int32)))) = 0 → 
        jc_M_isSaid_8 D kk x1 (x2 + (-1 : Int32)) x3 x4 ((x2 + (-1 : Int32)) - (nI 1)) σ))))) ∧
  (((σ 20).1 72 0 (jaIx x4)) = (nI 21) → 
    vp_in ((x2 + (-1 : Int32)) - (nI 1)) 45 ∧ ((((σ 20).1 90 0 (jaIx ((x2 + (-1 : Int32)) - (nI 1)))) = 0 → 
      jc_M_isSaid_6 D kk x1 (x2 + (-1 : Int32)) x3 x4 ((x2 + (-1 : Int32)) - (nI 1)) σ) ∧
    (¬ ((σ 20).1 90 0 (jaIx ((x2 + (-1 : Int32)) - (nI 1)))) = 0 → 
      vp_in (x2 + (-1 : Int32)) 45 ∧ ((((σ 20).1 90 0 (jaIx (x2 + (-1 : Int32)))) = 0 → 
        jc_M_isSaid_6 D kk x1 (x2 + (-1 : Int32)) x3 x4 ((x2 + (-1 : Int32)) - (nI 1)) σ) ∧
      (¬ ((σ 20).1 90 0 (jaIx (x2 + (-1 : Int32)))) = 0 → 
        jc_M_isSaid_10 D kk x1 (x2 + (-1 : Int32)) x3 x4 ((x2 + (-1 : Int32)) - (nI 1)) (nI 1) σ))))))) :
  jc_M_isSaid_5 D kk x1 x2 x3 x4 σ :=
  jaRun_go (jaCall_self jaAr jaMt D) [1, 3, 5, 6, 8, 10, 12] 29 _ _ _ _ h
theorem jb_M_isSaid_6 {D : Nat} {kk : Int32 → jaT → Prop} {σ : jaT} {x1 : Int32} {x2 : Int32} {x3 : Int32} {x4 : Int32} {xs1 : Int32} (h :
  jc_M_isSaid_10 D kk x1 x2 x3 x4 xs1 (nI 0) σ) :
  jc_M_isSaid_6 D kk x1 x2 x3 x4 xs1 σ :=
  jaRun_go (jaCall_self jaAr jaMt D) [1, 3, 5, 6, 8, 10, 12] 5 _ _ _ _ h
theorem jb_M_isSaid_8 {D : Nat} {kk : Int32 → jaT → Prop} {σ : jaT} {x1 : Int32} {x2 : Int32} {x3 : Int32} {x4 : Int32} {xs1 : Int32} (h :
  jc_M_isSaid_10 D kk x1 x2 x3 x4 xs1 (nI 1) σ) :
  jc_M_isSaid_8 D kk x1 x2 x3 x4 xs1 σ :=
  jaRun_go (jaCall_self jaAr jaMt D) [1, 3, 5, 6, 8, 10, 12] 5 _ _ _ _ h
theorem jb_M_isSaid_10 {D : Nat} {kk : Int32 → jaT → Prop} {σ : jaT} {x1 : Int32} {x2 : Int32} {x3 : Int32} {x4 : Int32} {xs1 : Int32} {xs2 : Int32} (h :
  vp_in xs1 45 ∧ (xs2 = 0 ∨ xs2 = 1) ∧ 
  (let σ1 : jaT := jaU σ 20 (jaUI (σ 20) 90 0 (jaIx xs1) xs2)
  jc_M_isSaid_12 D kk x1 x2 x3 x4 σ1)) :
  jc_M_isSaid_10 D kk x1 x2 x3 x4 xs1 xs2 σ :=
  jaRun_go (jaCall_self jaAr jaMt D) [1, 3, 5, 6, 8, 10, 12] 5 _ _ _ _ h
theorem jb_M_isSaid_12 {D : Nat} {kk : Int32 → jaT → Prop} {σ : jaT} {x1 : Int32} {x2 : Int32} {x3 : Int32} {x4 : Int32} (h :
  jc_M_isSaid_1 D kk x1 x2 (x3 + (nI 1)) (some (.inl x4)) σ) :
  jc_M_isSaid_12 D kk x1 x2 x3 x4 σ :=
  jaRun_go (jaCall_self jaAr jaMt D) [1, 3, 5, 6, 8, 10, 12] 5 _ _ _ _ h
abbrev jm_M_said : jaM := (jf_M_said, jp_M_said, 4)
def jc_M_said_3 (D : Nat) (kk : Int32 → jaT → Prop) (x1 : Int32) (x2 : Int32) (x3 : Int32) (σ : jaT) : Prop := jaC (jaDe D) jm_M_said (jaKi kk) 3 [some (.inr (.inr (70, 20, 0))), some (.inl x1), some (.inl x2), some (.inl x3)] [] σ
theorem js_M_said {D : Nat} {kk : Int32 → jaT → Prop} {σ : jaT} {x1 : Int32} (h :
  let σ1 : jaT := jaU σ 20 (jaUI (σ 20) 70 0 0 (nI 0))
  vp_in (nI 525) 706 ∧ ((((σ1 20).1 72 0 (jaIx (nI 525))) = 0 → kk (-1 : Int32) σ1) ∧
  (¬ ((σ1 20).1 72 0 (jaIx (nI 525))) = 0 → 
    ((-1 : Int32) ≤ x1 → jc_M_said_3 D kk x1 (nI 0) (nI 0) σ1) ∧
    (¬ (-1 : Int32) ≤ x1 → kk (-1 : Int32) σ1)))) :
  jaDe (D + 1) jy_M_said [.inr (.inr (70, 20, 0)), .inl x1] σ (jaKi kk) :=
  jaCall_intro (mt := jaMt) (y := jy_M_said) (f := jf_M_said) (ps := jp_M_said) (nL := 4) rfl rfl (jaRun_go (jaCall_self jaAr jaMt D) [3] 19 _ _ _ _ h)
theorem jb_M_said_3 {D : Nat} {kk : Int32 → jaT → Prop} {σ : jaT} {x1 : Int32} {x2 : Int32} {x3 : Int32} (h :
  vp_in (nI 34) 706 ∧ ((((σ 20).1 72 0 (jaIx (nI 34))) ≤ x3 → 
    (¬ x1 = (-1 : Int32) → kk (-1 : Int32) σ) ∧
    (x1 = (-1 : Int32) → kk x2 σ)) ∧
  (¬ ((σ 20).1 72 0 (jaIx (nI 34))) ≤ x3 → 
    (jaDe D) jy_M_isSaid [.inr (.inr (70, 20, 0)), .inl x3] σ (jaKi fun r2 σ1 =>
      (¬ r2 = 0 → 
        (¬ x2 = x1 → jc_M_said_3 D kk x1 (x2 + (nI 1)) (x3 + (nI 1)) σ1) ∧
        (x2 = x1 → kk x3 σ1)) ∧
      (r2 = 0 → jc_M_said_3 D kk x1 x2 (x3 + (nI 1)) σ1))))) :
  jc_M_said_3 D kk x1 x2 x3 σ :=
  jaRun_go (jaCall_self jaAr jaMt D) [3] 20 _ _ _ _ h
abbrev jm_M_image : jaM := (jf_M_image, jp_M_image, 3)
def jc_M_image_2 (D : Nat) (kk : Int32 → jaT → Prop) (x1 : Int32) (x2 : Int32) (σ : jaT) : Prop := jaC (jaDe D) jm_M_image (jaKi kk) 2 [some (.inr (.inr (70, 20, 0))), some (.inl x1), some (.inl x2)] [] σ
def jc_M_image_4 (D : Nat) (kk : Int32 → jaT → Prop) (x1 : Int32) (x2 : Int32) (σ : jaT) : Prop := jaC (jaDe D) jm_M_image (jaKi kk) 4 [some (.inr (.inr (70, 20, 0))), some (.inl x1), some (.inl x2)] [] σ
def jc_M_image_6 (D : Nat) (kk : Int32 → jaT → Prop) (x1 : Int32) (x2 : Int32) (σ : jaT) : Prop := jaC (jaDe D) jm_M_image (jaKi kk) 6 [some (.inr (.inr (70, 20, 0))), some (.inl x1), some (.inl x2)] [] σ
def jc_M_image_8 (D : Nat) (kk : Int32 → jaT → Prop) (x1 : Int32) (x2 : Int32) (σ : jaT) : Prop := jaC (jaDe D) jm_M_image (jaKi kk) 8 [some (.inr (.inr (70, 20, 0))), some (.inl x1), some (.inl x2)] [] σ
theorem js_M_image {D : Nat} {kk : Int32 → jaT → Prop} {σ : jaT} {x1 : Int32} (h :
  let σ1 : jaT := jaU σ 20 (jaUI (σ 20) 70 0 0 (nI 0))
  (jaDe D) jy_M_isIn [.inl x1, .inl (nI 0), .inl (nI 1)] σ1 (jaKi fun r3 σ2 =>
    (¬ r3 = 0 → jc_M_image_2 D kk x1 (nI 0) σ2) ∧
    (r3 = 0 → ((nI 0) = 0 ∨ (nI 0) = 1) ∧ kk (nI 0) σ2))) :
  jaDe (D + 1) jy_M_image [.inr (.inr (70, 20, 0)), .inl x1] σ (jaKi kk) :=
  jaCall_intro (mt := jaMt) (y := jy_M_image) (f := jf_M_image) (ps := jp_M_image) (nL := 3) rfl rfl (jaRun_go (jaCall_self jaAr jaMt D) [2, 4, 6, 8] 14 _ _ _ _ h)
theorem jb_M_image_2 {D : Nat} {kk : Int32 → jaT → Prop} {σ : jaT} {x1 : Int32} {x2 : Int32} (h :
  ((nI 706) ≤ x2 → jc_M_image_4 D kk x1 (nI 0) σ) ∧
  (¬ (nI 706) ≤ x2 → 
    vp_in x2 706 ∧ (vp_in (((nI 706) * x1) + x2) 1412 ∧ 
    (let σ1 : jaT := jaU σ 20 (jaUI (σ 20) 91 0 (jaIx (((nI 706) * x1) + x2)) ((σ 20).1 72 0 (jaIx x2)))
    jc_M_image_2 D kk x1 (x2 + (nI 1)) σ1)))) :
  jc_M_image_2 D kk x1 x2 σ :=
  jaRun_go (jaCall_self jaAr jaMt D) [2, 4, 6, 8] 20 _ _ _ _ h
theorem jb_M_image_4 {D : Nat} {kk : Int32 → jaT → Prop} {σ : jaT} {x1 : Int32} {x2 : Int32} (h :
  ((nI 3192) ≤ x2 → jc_M_image_6 D kk x1 (nI 0) σ) ∧
  (¬ (nI 3192) ≤ x2 → 
    vp_in x2 3192 ∧ (vp_in (((nI 3192) * x1) + x2) 6384 ∧ 
    (let σ1 : jaT := jaU σ 20 (jaUI (σ 20) 92 0 (jaIx (((nI 3192) * x1) + x2)) ((σ 20).1 75 0 (jaIx x2)))
    jc_M_image_4 D kk x1 (x2 + (nI 1)) σ1)))) :
  jc_M_image_4 D kk x1 x2 σ :=
  jaRun_go (jaCall_self jaAr jaMt D) [2, 4, 6, 8] 20 _ _ _ _ h
theorem jb_M_image_6 {D : Nat} {kk : Int32 → jaT → Prop} {σ : jaT} {x1 : Int32} {x2 : Int32} (h :
  ((nI 576) ≤ x2 → jc_M_image_8 D kk x1 (nI 0) σ) ∧
  (¬ (nI 576) ≤ x2 → 
    vp_in x2 576 ∧ (vp_in (((nI 576) * x1) + x2) 1152 ∧ 
    (let σ1 : jaT := jaU σ 20 (jaUI (σ 20) 93 0 (jaIx (((nI 576) * x1) + x2)) ((σ 20).1 76 0 (jaIx x2)))
    jc_M_image_6 D kk x1 (x2 + (nI 1)) σ1)))) :
  jc_M_image_6 D kk x1 x2 σ :=
  jaRun_go (jaCall_self jaAr jaMt D) [2, 4, 6, 8] 20 _ _ _ _ h
theorem jb_M_image_8 {D : Nat} {kk : Int32 → jaT → Prop} {σ : jaT} {x1 : Int32} {x2 : Int32} (h :
  ((nI 16) ≤ x2 → 
    vp_in x1 2 ∧ ((nI 1) = 0 ∨ (nI 1) = 1) ∧ 
    (let σ1 : jaT := jaU σ 20 (jaUI (σ 20) 95 0 (jaIx x1) (nI 1))
    ((nI 1) = 0 ∨ (nI 1) = 1) ∧ kk (nI 1) σ1)) ∧
  (¬ (nI 16) ≤ x2 → 
    vp_in x2 32 ∧ (vp_in (((nI 16) * x1) + x2) 32 ∧ 
    (let σ2 : jaT := jaU σ 20 (jaUL (σ 20) 94 0 (jaIx (((nI 16) * x1) + x2)) ((σ 20).2 78 0 (jaIx x2)))
    jc_M_image_8 D kk x1 (x2 + (nI 1)) σ2)))) :
  jc_M_image_8 D kk x1 x2 σ :=
  jaRun_go (jaCall_self jaAr jaMt D) [2, 4, 6, 8] 20 _ _ _ _ h
abbrev jm_M_restore : jaM := (jf_M_restore, jp_M_restore, 3)
def jc_M_restore_3 (D : Nat) (kk : Int32 → jaT → Prop) (x1 : Int32) (x2 : Int32) (σ : jaT) : Prop := jaC (jaDe D) jm_M_restore (jaKi kk) 3 [some (.inr (.inr (70, 20, 0))), some (.inl x1), some (.inl x2)] [] σ
def jc_M_restore_5 (D : Nat) (kk : Int32 → jaT → Prop) (x1 : Int32) (x2 : Int32) (σ : jaT) : Prop := jaC (jaDe D) jm_M_restore (jaKi kk) 5 [some (.inr (.inr (70, 20, 0))), some (.inl x1), some (.inl x2)] [] σ
def jc_M_restore_7 (D : Nat) (kk : Int32 → jaT → Prop) (x1 : Int32) (x2 : Int32) (σ : jaT) : Prop := jaC (jaDe D) jm_M_restore (jaKi kk) 7 [some (.inr (.inr (70, 20, 0))), some (.inl x1), some (.inl x2)] [] σ
def jc_M_restore_9 (D : Nat) (kk : Int32 → jaT → Prop) (x1 : Int32) (x2 : Int32) (σ : jaT) : Prop := jaC (jaDe D) jm_M_restore (jaKi kk) 9 [some (.inr (.inr (70, 20, 0))), some (.inl x1), some (.inl x2)] [] σ
theorem js_M_restore {D : Nat} {kk : Int32 → jaT → Prop} {σ : jaT} {x1 : Int32} (h :
  let σ1 : jaT := jaU σ 20 (jaUI (σ 20) 70 0 0 (nI 0))
  (jaDe D) jy_M_isIn [.inl x1, .inl (nI 0), .inl (nI 1)] σ1 (jaKi fun r3 σ2 =>
    (r3 = 0 → ((nI 0) = 0 ∨ (nI 0) = 1) ∧ kk (nI 0) σ2) ∧
    (¬ r3 = 0 → 
      vp_in x1 2 ∧ ((¬ ((σ2 20).1 95 0 (jaIx x1)) = 0 → jc_M_restore_3 D kk x1 (nI 0) σ2) ∧
      (((σ2 20).1 95 0 (jaIx x1)) = 0 → ((nI 0) = 0 ∨ (nI 0) = 1) ∧ kk (nI 0) σ2))))) :
  jaDe (D + 1) jy_M_restore [.inr (.inr (70, 20, 0)), .inl x1] σ (jaKi kk) :=
  jaCall_intro (mt := jaMt) (y := jy_M_restore) (f := jf_M_restore) (ps := jp_M_restore) (nL := 3) rfl rfl (jaRun_go (jaCall_self jaAr jaMt D) [3, 5, 7, 9] 19 _ _ _ _ h)
theorem jb_M_restore_3 {D : Nat} {kk : Int32 → jaT → Prop} {σ : jaT} {x1 : Int32} {x2 : Int32} (h :
  ((nI 706) ≤ x2 → jc_M_restore_5 D kk x1 (nI 0) σ) ∧
  (¬ (nI 706) ≤ x2 → 
    vp_in (((nI 706) * x1) + x2) 1412 ∧ (vp_in x2 706 ∧ 
    (let σ1 : jaT := jaU σ 20 (jaUI (σ 20) 72 0 (jaIx x2) ((σ 20).1 91 0 (jaIx (((nI 706) * x1) + x2))))
    jc_M_restore_3 D kk x1 (x2 + (nI 1)) σ1)))) :
  jc_M_restore_3 D kk x1 x2 σ :=
  jaRun_go (jaCall_self jaAr jaMt D) [3, 5, 7, 9] 20 _ _ _ _ h
theorem jb_M_restore_5 {D : Nat} {kk : Int32 → jaT → Prop} {σ : jaT} {x1 : Int32} {x2 : Int32} (h :
  ((nI 3192) ≤ x2 → jc_M_restore_7 D kk x1 (nI 0) σ) ∧
  (¬ (nI 3192) ≤ x2 → 
    vp_in (((nI 3192) * x1) + x2) 6384 ∧ (vp_in x2 3192 ∧ 
    (let σ1 : jaT := jaU σ 20 (jaUI (σ 20) 75 0 (jaIx x2) ((σ 20).1 92 0 (jaIx (((nI 3192) * x1) + x2))))
    jc_M_restore_5 D kk x1 (x2 + (nI 1)) σ1)))) :
  jc_M_restore_5 D kk x1 x2 σ :=
  jaRun_go (jaCall_self jaAr jaMt D) [3, 5, 7, 9] 20 _ _ _ _ h
theorem jb_M_restore_7 {D : Nat} {kk : Int32 → jaT → Prop} {σ : jaT} {x1 : Int32} {x2 : Int32} (h :
  ((nI 576) ≤ x2 → jc_M_restore_9 D kk x1 (nI 0) σ) ∧
  (¬ (nI 576) ≤ x2 → 
    vp_in (((nI 576) * x1) + x2) 1152 ∧ (vp_in x2 576 ∧ 
    (let σ1 : jaT := jaU σ 20 (jaUI (σ 20) 76 0 (jaIx x2) ((σ 20).1 93 0 (jaIx (((nI 576) * x1) + x2))))
    jc_M_restore_7 D kk x1 (x2 + (nI 1)) σ1)))) :
  jc_M_restore_7 D kk x1 x2 σ :=
  jaRun_go (jaCall_self jaAr jaMt D) [3, 5, 7, 9] 20 _ _ _ _ h
theorem jb_M_restore_9 {D : Nat} {kk : Int32 → jaT → Prop} {σ : jaT} {x1 : Int32} {x2 : Int32} (h :
  ((nI 16) ≤ x2 → 
    let σ1 : jaT := jaU σ 20 (jaUI (σ 20) 70 0 33 (nI 0))
    ((nI 1) = 0 ∨ (nI 1) = 1) ∧ kk (nI 1) σ1) ∧
  (¬ (nI 16) ≤ x2 → 
    vp_in (((nI 16) * x1) + x2) 32 ∧ (vp_in x2 32 ∧ 
    (let σ2 : jaT := jaU σ 20 (jaUL (σ 20) 78 0 (jaIx x2) ((σ 20).2 94 0 (jaIx (((nI 16) * x1) + x2))))
    jc_M_restore_9 D kk x1 (x2 + (nI 1)) σ2)))) :
  jc_M_restore_9 D kk x1 x2 σ :=
  jaRun_go (jaCall_self jaAr jaMt D) [3, 5, 7, 9] 20 _ _ _ _ h
abbrev jm_M_count : jaM := (jf_M_count, jp_M_count, 2)
theorem js_M_count {D : Nat} {kk : Int32 → jaT → Prop} {σ : jaT} {x1 : Int32} (h :
  let σ1 : jaT := jaU σ 20 (jaUI (σ 20) 70 0 0 (nI 0))
  (¬ x1 = (nI 5) → 
    (jaDe D) jy_M_isIn [.inl x1, .inl (nI 0), .inl (nI 4)] σ1 (jaKi fun r3 σ2 =>
      (r3 = 0 → kk (-1 : Int32) σ2) ∧
      (¬ r3 = 0 → vp_in x1 706 ∧ kk ((σ2 20).1 72 0 (jaIx x1)) σ2))) ∧
  (x1 = (nI 5) → kk ((σ1 20).1 70 0 2) σ1)) :
  jaDe (D + 1) jy_M_count [.inr (.inr (70, 20, 0)), .inl x1] σ (jaKi kk) :=
  jaCall_intro (mt := jaMt) (y := jy_M_count) (f := jf_M_count) (ps := jp_M_count) (nL := 2) rfl rfl (jaRun_go (jaCall_self jaAr jaMt D) [] 20 _ _ _ _ h)
end
