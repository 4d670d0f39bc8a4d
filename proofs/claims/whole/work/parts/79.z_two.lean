/-! LAYER 2: class and model read alike: a RULE's place among THE RULES (written by hand) -/
theorem sq_ck_w {m m' : Nat → Int32} : ∀ l k n p, (∀ q, k ≤ q → q < k + l → m' (96 + q) = m (96 + q)) → sq_ck m l k n p → sq_ck m' l k n p := by
  intro l
  induction l with
  | zero => intro k n p _ h1; exact h1
  | succ l ih =>
    intro k n p hk h1
    have hk' : ∀ q, k + 1 ≤ q → q < k + 1 + l → m' (96 + q) = m (96 + q) := fun q a b => hk q (by omega) (by omega)
    rw [sq_ck] at h1 ⊢
    rw [hk k (by omega) (by omega)]
    rcases h1 with ⟨a, b, c⟩ | ⟨a, b, b2, c⟩ | ⟨a, b, b2, c⟩ | ⟨a, b, b2, c⟩
    · exact Or.inl ⟨a, b, ih _ _ _ hk' c⟩
    · exact Or.inr (Or.inl ⟨a, b, b2, ih _ _ _ hk' c⟩)
    · exact Or.inr (Or.inr (Or.inl ⟨a, b, b2, ih _ _ _ hk' c⟩))
    · exact Or.inr (Or.inr (Or.inr ⟨a, b, b2, ih _ _ _ hk' c⟩))
/-- one rule more -/
theorem sq_more {m m1 m2 : Nat → Int32} {x x2 : Nat → Nat → Int32} {r k kd d : Nat} (ok : sq_OkR m) (hR : sq_RR x 44 m) (hr : sq_rn m = r) (hr8 : r < 8) (hkd : kd ≤ 5) (hd : d ≤ 2) (hk : k ≤ 200)
    (a1 : ∀ j, j < 96 → m1 j = m j) (a2 : ∀ q, q < sq_en m r → m1 (96 + q) = m (96 + q)) (hs : sq_en m r = k ∨ sq_sx m1 (sq_en m r) k 0 1) (hle : sq_en m r ≤ k)
    (b : ∀ j, m2 j = if j = 1 then Int32.ofNat (r + 1) else if j = 72 + 3 * r + 2 then Int32.ofNat k else if j = 72 + 3 * r + 1 then Int32.ofNat d else if j = 72 + 3 * r then Int32.ofNat kd else m1 j)
    (c0 : x2 44 0 = Int32.ofNat (r + 1)) (c1 : x2 44 1 = Int32.ofNat k) (c5 : ∀ q, x2 45 q = if q = r then Int32.ofNat kd else x 45 q) (c6 : ∀ q, x2 46 q = if q = r then Int32.ofNat d else x 46 q) (c7 : ∀ q, x2 47 q = if q = r then Int32.ofNat (sq_en m r) else x 47 q) (c8 : ∀ q, x2 48 q = if q = r then Int32.ofNat k else x 48 q) (c9 : ∀ q, q < k → x2 49 q = sq_cm (m1 (96 + q))) :
    sq_OkR m2 ∧ sq_RR x2 44 m2 ∧ sq_rn m2 = r + 1 ∧ sq_en m2 (r + 1) = k := by
  have e1 : m2 1 = Int32.ofNat (r + 1) := by rw [b, if_pos rfl]
  have ern : sq_rn m2 = r + 1 := by unfold sq_rn; rw [e1, ix_nat (by omega)]
  have eold : ∀ j, j ≠ 1 → j < 72 + 3 * r → m2 j = m j := fun j h1 h2 => by
    rw [b, if_neg h1, if_neg (by omega), if_neg (by omega), if_neg (by omega), a1 j (by omega)]
  have ecode : ∀ q, m2 (96 + q) = m1 (96 + q) := fun q => by rw [b, if_neg (by omega), if_neg (by omega), if_neg (by omega), if_neg (by omega)]
  have een : ∀ q, q ≤ r → sq_en m2 q = sq_en m q := by
    intro q hq
    cases q with
    | zero => rfl
    | succ q => show (m2 _).toNatClampNeg = (m _).toNatClampNeg; rw [eold _ (by omega) (by omega)]
  have e72 : m2 (72 + 3 * r) = Int32.ofNat kd := by rw [b, if_neg (by omega), if_neg (by omega), if_neg (by omega), if_pos rfl]
  have e73 : m2 (72 + 3 * r + 1) = Int32.ofNat d := by rw [b, if_neg (by omega), if_neg (by omega), if_pos rfl]
  have e74 : m2 (72 + 3 * r + 2) = Int32.ofNat k := by rw [b, if_neg (by omega), if_pos rfl]
  have eenr : sq_en m2 (r + 1) = k := by show (m2 (72 + 3 * r + 2)).toNatClampNeg = k; rw [e74, ix_nat (by omega)]
  obtain ⟨r0, r1, r2, r3⟩ := hR
  have mono : ∀ q, q ≤ r → sq_en m q ≤ sq_en m r := fun q hq => by
    have := sq_en_mono ok (r - q) q (by omega)
    rwa [show q + (r - q) = r by omega] at this
  refine ⟨⟨⟨r + 1, by omega, e1⟩, fun q hq => ?_⟩, ⟨by rw [c0, e1], by rw [c1, ern, eenr], fun q hq => ?_, fun q hq => ?_⟩, ern, eenr⟩
  · rw [ern] at hq
    by_cases hqr : q = r
    · subst hqr
      rw [e72, e73, e74, eenr, een q (Nat.le_refl _)]
      refine ⟨⟨kd, hkd, rfl⟩, ⟨d, hd, rfl⟩, ⟨k, hk, rfl⟩, hle, ?_⟩
      rcases hs with hs | hs
      · exact Or.inl hs
      · right
        have := hs.2 m2 (fun z _ => ecode z) 0 ⟨rfl, rfl⟩
        rwa [Nat.zero_add] at this
    · obtain ⟨g1, g2, g3, g4, g5⟩ := ok.2 q (by omega)
      have hm := mono (q + 1) (by omega)
      rw [eold _ (by omega) (by omega), eold _ (by omega) (by omega), eold _ (by omega) (by omega), een q (by omega), een (q + 1) (by omega)]
      exact ⟨g1, g2, g3, g4, g5.imp id (sq_ck_w _ _ _ _ (fun z z1 z2 => by rw [ecode, a2 z (by omega)]))⟩
  · rw [ern] at hq
    show x2 45 q = _ ∧ x2 46 q = _ ∧ x2 47 q = _ ∧ x2 48 q = _
    rw [c5, c6, c7, c8]
    by_cases hqr : q = r
    · subst hqr
      rw [if_pos rfl, if_pos rfl, if_pos rfl, if_pos rfl, e72, e73, eenr, een q (Nat.le_refl _)]
      exact ⟨rfl, rfl, rfl, rfl⟩
    · rw [if_neg hqr, if_neg hqr, if_neg hqr, if_neg hqr, eold _ (by omega) (by omega), eold _ (by omega) (by omega), een q (by omega), een (q + 1) (by omega)]
      exact r2 q (by omega)
  · rw [ern, eenr] at hq
    show x2 49 q = _
    rw [c9 q hq, ecode]
def sq_RU (T : Nat → Int32) (n c i k : Nat) (sc sm : am_S) : Prop := sq_RL T n c i k sc sm ∧ sm.1 82 26 = Int32.ofNat 0 ∧ k ≤ i ∧ sq_OkR (sm.1 83) ∧ sq_RR sc.1 44 (sm.1 83) ∧ k = sq_en (sm.1 83) (sq_rn (sm.1 83))
/-- behind KIND and COND: the rule is put there, or the fault lies in DO and ";" -/
theorem sim_end {T : Nat → Int32} {n c i k i1 k1 r kd : Nat} {sc sm sc1 sm1 : am_S} (h : sq_RU T n c i k sc sm) (hr : sq_rn (sm.1 83) = r) (hr8 : r < 8) (hkd : kd ≤ 5) (h1 : sq_RL T n c i1 k1 sc1 sm1) (hi : i < i1) (hk1 : k1 ≤ i1) (fc : ix_F2 sq_yC sc sc1) (fm : ix_F2 (sq_yM k) sm sm1) (hs : k = k1 ∨ sq_sx (sm1.1 83) k k1 0 1) (hle : k ≤ k1) :
    (∃ i' k' sc' sm', F_X6_readRule_40_b70 (Int32.ofNat kd) (Int32.ofNat k) sc1 = some (1, sc') ∧ F_X12_rule_82_b49 (Int32.ofNat kd) sm1 = some sm' ∧ sq_RU T n c i' k' sc' sm' ∧ i < i' ∧ sq_rn (sm'.1 83) = r + 1 ∧ ix_F2 sq_yCR sc sc' ∧ ix_F2 sq_yMR sm sm') ∨
    (∃ i' sc' sm', F_X6_readRule_40_b70 (Int32.ofNat kd) (Int32.ofNat k) sc1 = some (0, sc') ∧ F_X12_rule_82_b49 (Int32.ofNat kd) sm1 = some sm' ∧ sq_FL T n c i' sc' sm' ∧ ix_F2 sq_yCR sc sc' ∧ ix_F2 sq_yMR sm sm') := by
  obtain ⟨hL, h26, hki, ok, hR, hen⟩ := h
  have hrn := (sq_rn_ok ok).2
  rw [hr] at hrn hen
  have g0 : sc1.1 44 0 = Int32.ofNat r := by rw [fc.1 44 0 (by rfl), hR.1, hrn]
  have g1 : sm1.1 83 1 = Int32.ofNat r := by rw [sq_pM_j fm (by omega), hrn]
  rcases sim_tail (x := Int32.ofNat kd) (v := Int32.ofNat k) h1 g0 g1 hr8 with ⟨d, sc2, sc3, sm', d1, t1, t2, t3, t4, t5, t6, t7, t8, t9, t10, t11⟩ | ⟨i', sc', sm', t1, t2, t3, t4, t5⟩
  rotate_left
  · exact Or.inr ⟨i', sc', sm', t1, t2, t3, sq_pC_R (fc.tr (sq_p5C t4)), (sq_pM_R fm).tr t5⟩
  left
  obtain ⟨hC1, hM1, k28, k27, k44, kcd⟩ := h1
  obtain ⟨ic1, c200, -⟩ := sq_CP_i hC1
  have q0 : sc2.1 44 0 = Int32.ofNat r := (t4.1 44 0 (by rfl)).trans g0
  have q1 : sc2.1 44 1 = Int32.ofNat k1 := (t4.1 44 1 (by rfl)).trans k44
  obtain ⟨sc4, s1, s5, s6, s7, s8, s9, s10, s11, s12, s13⟩ := cz_addRule (x := Int32.ofNat kd) (y := Int32.ofNat d) (v := Int32.ofNat k) q0 hr8
  obtain rfl : sc3 = sc4 := by rw [t6] at s1; exact Option.some.inj s1
  have old : ∀ z q, 45 ≤ z → z < 49 → sc2.1 z q = sc.1 z q := fun z q z1 z2 => by
    rw [t4.1 z q (by unfold sq_p5; simp; omega), fc.1 z q (by unfold sq_yC; simp; omega)]
  have hm := sq_more (m := sm.1 83) (m1 := sm1.1 83) (m2 := sm'.1 83) (x := sc.1) (x2 := sc3.1) (k := k1) ok hR hr hr8 hkd d1 (by omega) (fun j hj => sq_pM_j fm hj) (fun q hq => sq_pM_q fm (by omega)) (by rw [← hen]; exact hs) (by omega) t10 s9 (by rw [s10, q1]) (fun q => by rw [s5, old 45 q (by omega) (by omega)]) (fun q => by rw [s6, old 46 q (by omega) (by omega)]) (fun q => by rw [s7, old 47 q (by omega) (by omega), ← hen]) (fun q => by rw [s8, old 48 q (by omega) (by omega), q1]) (fun q hq => by rw [s11, t4.1 49 q (by rfl)]; exact kcd q hq)
  obtain ⟨m1, m2, m3, m4⟩ := hm
  have f2 : ix_F2 sq_yMR sm sm' := (sq_pM_R fm).tr t11
  refine ⟨i1 + 2, k1, sc3, sm', t1, t2, ⟨⟨sq_CP_fr s12 t5, t7, t8, t9, by rw [s10, q1], fun q hq => ?_⟩, (f2.1 82 26 (by rfl)).trans h26, by omega, m1, m2, by rw [m3, m4]⟩, by omega, m3, (sq_pC_R (fc.tr (sq_p5C t4))).tr s13, f2⟩
  rw [s11, t4.1 49 q (by rfl), kcd q hq, t10, if_neg (by omega), if_neg (by omega), if_neg (by omega), if_neg (by omega)]
/-- one RULE -/
theorem sim_rule {T : Nat → Int32} {n c i k r : Nat} {sc sm : am_S} (h : sq_RU T n c i k sc sm) (hr : sq_rn (sm.1 83) = r) :
    (∃ i' k' sc' sm', F_X6_readRule_40 sc = some (1, sc') ∧ F_X12_rule_82 sm = some sm' ∧ sq_RU T n c i' k' sc' sm' ∧ i < i' ∧ sq_rn (sm'.1 83) = r + 1 ∧ r < 8 ∧ ix_F2 sq_yCR sc sc' ∧ ix_F2 sq_yMR sm sm') ∨
    (∃ i' sc' sm', F_X6_readRule_40 sc = some (0, sc') ∧ F_X12_rule_82 sm = some sm' ∧ sq_FL T n c i' sc' sm' ∧ ix_F2 sq_yCR sc sc' ∧ ix_F2 sq_yMR sm sm') := by
  obtain ⟨hL, h26, hki, ok, hR, hen⟩ := id h
  obtain ⟨hC, hM, h28, h27, h44, hcd⟩ := id hL
  obtain ⟨hT, hp, ht, he, hn⟩ := sq_M_T hM
  obtain ⟨ic, c200, clt⟩ := sq_CP_i hC
  have z1 : ¬ (1 : Int32) = 0 := by decide
  have z0 : (0 : Int32) = 0 := rfl
  obtain ⟨hr8, hrn⟩ := sq_rn_ok ok
  rw [hr] at hr8 hrn
  have i1 : am_in (1 : Int32) 296 := (ix_inL (by omega)).mpr (by omega)
  have n1 : (1 : Int32).toNatClampNeg = 1 := rfl
  have g0 : sc.1 44 0 = Int32.ofNat r := by rw [hR.1, hrn]
  -- the fault lies at the token at hand
  have hfault : F_X6_readRule_40 sc = some (0, sc) → (∃ x, F_X12_rule_82 sm = F_X12_rule_82_b26 x 0 sm) → ∃ i' sc' sm', F_X6_readRule_40 sc = some (0, sc') ∧ F_X12_rule_82 sm = some sm' ∧ sq_FL T n c i' sc' sm' ∧ ix_F2 sq_yCR sc sc' ∧ ix_F2 sq_yMR sm sm' := by
    rintro e1 ⟨x, e2⟩
    obtain ⟨m1, b1, b2, b3, b4⟩ := mz_no (k := k) hM h28
    refine ⟨i, sc, m1, e1, ?_, ⟨hC, b2, b3⟩, ix_F2.rf, sq_pM_R b4⟩
    have h26F := mz_r26F (x := x) b2 b3 0
    rw [F_X12_rule_82_b26, mz_wF b3, ix_b1] at h26F
    rw [e2, F_X12_rule_82_b26, b1, ix_b1]
    exact h26F
  have hkh := mz_kindHere hM ht
  rw [if_pos h28] at hkh
  by_cases hkd : ∃ q, q < 6 ∧ sq_is T (sq_tp T n i) (sq_te T n (sq_tp T n i)) q = true
  rotate_left
  · right
    have hno : ∀ q, q < 6 → ¬ sq_is T (sq_tp T n i) (sq_te T n (sq_tp T n i)) q = true := fun q q1 q2 => hkd ⟨q, q1, q2⟩
    refine hfault ?_ ⟨-1, ?_⟩
    · have hw : ¬ (0 ≤ sq_cc T n (sq_tp T n i) - 10030 ∧ sq_cc T n (sq_tp T n i) - 10030 ≤ 5) := by
        intro z
        obtain ⟨q, q1, q2, q3⟩ := sq_win (m := 5) (by omega) z
        rw [(sq_kindW q (by omega)).1] at q3
        exact hno q (by omega) ((sq_cc_W hp hT (by omega)).mp q3)
      rw [F_X6_readRule_40, cz_cur hC, ix_b1]
      dsimp only
      rw [g0]
      by_cases h8 : r < 8
      · rw [if_neg (by rw [ix_Lle (by omega) (by omega)]; omega), ix_cw, ix_b1, ix_wi_n hw]
        dsimp only
        rw [if_pos z0]
      · rw [if_pos (by rw [ix_Lle (by omega) (by omega)]; omega)]
    · rw [F_X12_rule_82, hkh, ix_b1, sq_kd_no hno]
      dsimp only
      rw [if_pos (show (-1 : Int32) < 0 by decide), F_X12_rule_82_b25]
  obtain ⟨kd, kd1, kd2⟩ := hkd
  obtain ⟨w1, w2, w3, w4, w5⟩ := sq_kindW kd kd1
  have hcc : sq_cc T n (sq_tp T n i) = sq_WW kd := (sq_cc_W hp hT (by omega)).mpr kd2
  have hlt := (sq_is_1 (k := kd) (by omega) he hT kd2).1
  by_cases h8 : r < 8
  rotate_left
  · right
    refine hfault ?_ ⟨Int32.ofNat kd, ?_⟩
    · rw [F_X6_readRule_40, cz_cur hC, ix_b1]
      dsimp only
      rw [g0, if_pos (by rw [ix_Lle (by omega) (by omega)]; omega)]
    · rw [F_X12_rule_82, hkh, ix_b1, sq_kd_W kd1 kd2]
      dsimp only
      rw [if_neg w5, if_pos i1, n1, hrn, if_pos (by rw [ix_Lle (by omega) (by omega)]; omega), F_X12_rule_82_b25]
  obtain ⟨m1, b1, b2, b3, -, b5, b6, b7⟩ := mz_go (k := k) hM h28
  obtain ⟨u1, u2, u3⟩ := sq_CP_up hC hlt
  obtain ⟨c1, ec1⟩ : ∃ c1, c1 = am_sI sc 40 5 (Int32.ofNat (i + 1)) := ⟨_, rfl⟩
  rw [← ec1] at u1 u2 u3
  have hL1 := sq_RL_go hL u2 u3 b2 b3 b5 b6
  obtain ⟨-, hp1, ht1, he1, -⟩ := sq_M_T b2
  have hM0 : F_X12_rule_82 sm = ((F_X12_word_82 m1).bind fun q3 => (if (lg_cmp q3.1 (294 : Int64)) = (0 : Int32) then ((F_X12_wants_82 (1 : Int32) q3.2).bind fun q6 => ((F_X12_condition_82 10 q6).bind fun q8 => (F_X12_rule_82_b49 (Int32.ofNat kd) q8))) else (F_X12_rule_82_b49 (Int32.ofNat kd) q3.2))) := by
    rw [F_X12_rule_82, hkh, ix_b1, sq_kd_W kd1 kd2]
    dsimp only
    rw [if_neg w5, if_pos i1, n1, hrn, if_neg (by rw [ix_Lle (by omega) (by omega)]; omega), F_X12_rule_82_b26, b1, ix_b1]
  have hC0 : F_X6_readRule_40 sc = ((F_X6_goPast_40 (10050 : Int32) c1).bind fun q9 => (if q9.1 = (0 : Int32) then (F_X6_readRule_40_b70 (Int32.ofNat kd) (Int32.ofNat k) q9.2) else ((F_X6_readCondition_40 10 (0 : Int32) q9.2).bind fun q12 => (if q12.1 = (0 : Int32) then (some ((0 : Int32), q12.2)) else (F_X6_readRule_40_b70 (Int32.ofNat kd) (Int32.ofNat k) q12.2))))) := by
    have e44 : c1.1 44 1 = Int32.ofNat k := hL1.2.2.2.2.1
    rw [F_X6_readRule_40, cz_cur hC, ix_b1]
    dsimp only
    rw [g0, if_neg (by rw [ix_Lle (by omega) (by omega)]; omega), ix_cw, ix_b1, hcc, w2, ix_wi_p ⟨w3, w4⟩]
    dsimp only
    rw [if_neg z1, ix_b1, u1, e44]
  have hW := sq_cc_W (k := 14) hp1 hT (by omega)
  have e14 : sq_WW 14 = 10050 := by decide
  rw [e14] at hW
  have hx14 := sq_wx14 b2 ht1
  rw [hM0, hC0, mz_wordx b2 ht1, ix_b1]
  dsimp only
  rcases cz_goPast (x := 10050) u2 (by decide) with ⟨r1, r2, sc4, r3, r4, r5⟩ | ⟨r1, r3⟩
  rotate_left
  · -- no condition
    rw [r3, ix_b1, if_neg (fun z => r1 (hW.mpr (hx14.mp z).2))]
    dsimp only
    rw [if_pos z0]
    rcases sim_end h hr h8 (by omega : kd ≤ 5) hL1 (Nat.lt_succ_self i) (by omega) (sq_p5C u3) b7 (Or.inl rfl) (Nat.le_refl _) with ⟨i', k', sc', sm', x1, x2, x3, x4, x5, x6, x7⟩ | hh
    · exact Or.inl ⟨i', k', sc', sm', x1, x2, x3, x4, x5, h8, x6, x7⟩
    · exact Or.inr hh
  -- a condition
  have r5' : ix_F2 sq_p5 c1 sc4 := r5
  obtain ⟨m2, d1, d2, d3, -, d5, d6, d7⟩ := mz_go (k := k) b2 b3
  have hL2 := sq_RL_go hL1 r4 r5' d2 d3 d5 d6
  have q26 : m2.1 82 26 = Int32.ofNat 0 := (d7.1 82 26 (by rfl)).trans ((b7.1 82 26 (by rfl)).trans h26)
  rw [r3, ix_b1, if_pos (hx14.mpr ⟨b3, hW.mp r1⟩), d1, ix_b1]
  dsimp only
  rw [if_neg z1]
  have fc2 : ix_F2 sq_yC sc sc4 := (sq_p5C u3).tr (sq_p5C r5')
  have fm2 : ix_F2 (sq_yM k) sm m2 := b7.tr d7
  have hcond := sim_C0 T n c 0 (i + 1 + 1) k 0 sc4 m2 hL2 q26 (by omega) (by omega)
  have hz : Int32.ofNat 0 = 0 := rfl
  rw [hz] at hcond
  rcases hcond with ⟨i', k', sc', sm', a1, a2, a3, a4, a5, a6, a7, a8⟩ | ⟨i', sc', sm', a1, a2, a3, a4, a5⟩
  · rw [a1, a2, ix_b1, ix_b1]
    dsimp only
    rw [if_neg z1]
    have hkk := a8.1
    rcases sim_end h hr h8 (by omega : kd ≤ 5) a3 (by omega) (by omega) (fc2.tr a6) (fm2.tr a7) (Or.inr a8) hkk with ⟨i', k', sc', sm', x1, x2, x3, x4, x5, x6, x7⟩ | hh
    · exact Or.inl ⟨i', k', sc', sm', x1, x2, x3, x4, x5, h8, x6, x7⟩
    · exact Or.inr hh
  · rw [a1, a2, ix_b1, ix_b1]
    dsimp only
    rw [if_pos z0, mz_r49F a3.2.1 a3.2.2]
    exact Or.inr ⟨i', sc', sm', rfl, rfl, a3, sq_pC_R (fc2.tr a4), sq_pM_R (fm2.tr a5)⟩
