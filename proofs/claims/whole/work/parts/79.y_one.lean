/-! LAYER 2: class and model read alike: ONE, ALL, COND (written by hand) -/
theorem sq_sx_rf {m : Nat → Int32} {k u : Nat} : sq_sx m k k u u := ⟨Nat.le_refl _, fun m' _ l hl => by rw [Nat.sub_self]; exact hl⟩
theorem sq_sx_not {m : Nat → Int32} {k u : Nat} (h : m (96 + k) = -20) (hu : 1 ≤ u) : sq_sx m k (k + 1) u u := by
  refine ⟨by omega, fun m' hm l hl => ?_⟩
  rw [show l + (k + 1 - k) = l + 1 by omega, sq_ck]
  right; left
  rw [hm k (by omega)]
  exact ⟨h, rfl, hu, hl⟩
theorem sq_sx_bin {m : Nat → Int32} {k u : Nat} (h : m (96 + k) = -21 ∨ m (96 + k) = -22) : sq_sx m k (k + 1) (u + 2) (u + 1) := by
  refine ⟨by omega, fun m' hm l hl => ?_⟩
  rw [show l + (k + 1 - k) = l + 1 by omega, sq_ck]
  right; right; left
  rw [hm k (by omega)]
  exact ⟨h, rfl, by omega, hl⟩
theorem sq_push {T : Nat → Int32} {n c i k : Nat} {x y : Int32} {sc sm : am_S} (h : sq_RL T n c i k sc sm) (hk : k < 200) (hx : sq_cm y = x) : ∃ sc' sm', F_X7_addCode_44 x sc = some sc' ∧ F_X12_writes_82 y sm = some sm' ∧ sq_RL T n c i (k + 1) sc' sm' ∧ ix_F2 sq_yC sc sc' ∧ ix_F2 (sq_yM k) sm sm' ∧ sm'.1 83 (96 + k) = y := by
  obtain ⟨hC, hM, h28, h27, h44, hcd⟩ := h
  obtain ⟨c5, x1, x2, x3, x4, x5⟩ := cz_add (x := x) hC h44 hk
  obtain ⟨m4, g1, g2, g3, g4, g5, g6⟩ := mz_wri (x := y) hM h28 h27 hk
  refine ⟨c5, m4, x1, g1, ⟨x2, g2, g3, g4, x3, fun q hq => ?_⟩, x5, g6, g5⟩
  rw [x4]
  by_cases q0 : q = k
  · rw [if_pos q0, q0, g5, hx]
  · rw [if_neg q0, hcd q (by omega), sq_pM_q g6 (by omega)]
theorem sq_OU_seq {T : Nat → Int32} {n c pd i i1 k k1 u u1 u2 : Nat} {sc sm sc1 sm1 : am_S} {rC : Option (Int32 × am_S)} {rM : Option am_S} (fc : ix_F2 sq_yC sc sc1) (fm : ix_F2 (sq_yM k) sm sm1) (hs : sq_sx (sm1.1 83) k k1 u u1) (hi : i ≤ i1) (h : sq_OU T n c pd i1 k1 u1 u2 sc1 sm1 rC rM) : sq_OU T n c pd i k u u2 sc sm rC rM := by
  rcases h with ⟨i', k', sc', sm', a1, a2, a3, a4, a5, a6, a7, a8⟩ | ⟨i', sc', sm', a1, a2, a3, a4, a5⟩
  · exact Or.inl ⟨i', k', sc', sm', a1, a2, a3, Nat.le_trans hi a4, a5, fc.tr a6, fm.tr (sq_pM_le hs.1 a7), sq_sx_tr hs a8 (fun q hq => sq_pM_q a7 hq)⟩
  · exact Or.inr ⟨i', sc', sm', a1, a2, a3, fc.tr a4, fm.tr (sq_pM_le hs.1 a5)⟩
/-- ONE's end: "not" is written, or not -/
theorem mz_b128F {rc : am_S → Option am_S} {x : Int32} {s : am_S} (h28 : s.1 82 28 = 1) : F_X12_one_82_b128 rc x s = some s := by
  rw [F_X12_one_82_b128]
  split
  · rfl
  · rw [mz_writesF h28, ix_b1]
theorem sim_fin {T : Nat → Int32} {n c pd i0 i k0 k u x : Nat} {sc0 sm0 sc sm : am_S} {rcC : Int32 → am_S → Option (Int32 × am_S)} {rcM : am_S → Option am_S} (h : sq_RL T n c i k sc sm) (hk : k + pd + x ≤ i) (hx : x = 0 ∨ x = 1) (hs : sq_sx (sm.1 83) k0 k u (u + 1)) (fc : ix_F2 sq_yC sc0 sc) (fm : ix_F2 (sq_yM k0) sm0 sm) (hi : i0 ≤ i) : sq_OU T n c pd i0 k0 u (u + 1) sc0 sm0 (F_X6_readOne_40_b99 rcC (Int32.ofNat x) sc) (F_X12_one_82_b128 rcM (Int32.ofNat x) sm) := by
  have z1 : ¬ Int32.ofNat 1 = 0 := by decide
  have z0 : Int32.ofNat 0 = 0 := rfl
  left
  rcases hx with rfl | rfl
  · refine ⟨i, k, sc, sm, ?_, ?_, h, hi, by omega, fc, fm, hs⟩
    · rw [F_X6_readOne_40_b99, if_pos z0]
    · rw [F_X12_one_82_b128, if_pos z0]
  · have h200 := (sq_CP_i h.1).2.1
    have hic := (sq_CP_i h.1).1
    obtain ⟨sc', sm', a1, a2, a3, a4, a5, a6⟩ := sq_push (x := 10020) (y := -20) h (by omega) (by decide)
    refine ⟨i, k + 1, sc', sm', ?_, ?_, a3, hi, by omega, fc.tr a4, fm.tr (sq_pM_le hs.1 a5), sq_sx_tr hs (sq_sx_not a6 (by omega)) (fun q hq => sq_pM_q a5 hq)⟩
    · rw [F_X6_readOne_40_b99, if_neg z1, a1, ix_b1]
    · rw [F_X12_one_82_b128, if_neg z1, a2, ix_b1]
/-- a reader of conditions in both, at depth o -/
def sq_CN (o : Nat) (rcC : Int32 → am_S → Option (Int32 × am_S)) (rcM : am_S → Option am_S) : Prop := ∀ (T : Nat → Int32) (n c pd i k u : Nat) (sc sm : am_S), sq_RL T n c i k sc sm → sm.1 82 26 = Int32.ofNat o → k + pd ≤ i → u ≤ 2 * o → sq_OU T n c pd i k u (u + 1) sc sm (rcC (Int32.ofNat o) sc) (rcM sm)
theorem sq_RL_26 {T : Nat → Int32} {n c i k : Nat} {x : Int32} {sc sm : am_S} (h : sq_RL T n c i k sc sm) : sq_RL T n c i k sc (am_sI sm 82 26 x) := by
  obtain ⟨hC, hM, h28, h27, h44, hcd⟩ := h
  refine ⟨hC, sq_MX_w hM ⟨by omega, fun _ => by omega⟩, by rw [ix_sIj (by decide)]; exact h28, by rw [ix_sIj (by decide)]; exact h27, h44, fun q hq => by rw [ix_sIn (by decide)]; exact hcd q hq⟩
theorem sq_pC_40 {T : Nat → Int32} {n c i : Nat} {s : am_S} (h : sq_CP T n c i s) : s.1 40 2 = Int32.ofNat (c + 1) := h.1.2.2.1
/-- "(" COND ")" and comparisons: ONE behind its "not"s -/
theorem sim_b41 {T : Nat → Int32} {n c o pd i k u x : Nat} {sc sm : am_S} {rcC : Int32 → am_S → Option (Int32 × am_S)} {rcM : am_S → Option am_S} (hrc : o < 3 → sq_CN (o + 1) rcC rcM) (hF : ∀ s, s.1 82 28 = 1 → rcM s = some s) (ho : o ≤ 3) (h : sq_RL T n c i k sc sm) (h26 : sm.1 82 26 = Int32.ofNat o) (hk : k + pd + x ≤ i) (hx : x = 0 ∨ x = 1) (hu : u ≤ 2 * o + 2) : sq_OU T n c pd i k u (u + 1) sc sm (F_X6_readOne_40_b41 rcC (Int32.ofNat o) (Int32.ofNat x) sc) ((F_X12_byteAt_82 (sm.1 82 23) sm).bind fun q6 => (if q6.1 = (40 : Int32) then (if (3 : Int32) ≤ (q6.2.1 82 26) then (F_X12_one_82_b65 rcM (Int32.ofNat x) (0 : Int32) q6.2) else (F_X12_one_82_b65 rcM (Int32.ofNat x) (1 : Int32) q6.2)) else (F_X12_one_82_b124 rcM (Int32.ofNat x) q6.2))) := by
  obtain ⟨hC, hM, h28, h27, h44, hcd⟩ := id h
  obtain ⟨hT, hp, ht, he, hn⟩ := sq_M_T hM
  have z1 : ¬ (1 : Int32) = 0 := by decide
  have z0 : (0 : Int32) = 0 := rfl
  have hopen := sq_cc_S (b := 40) (p := sq_tp T n i) hT (Or.inl rfl)
  have e40 : sq_sg 40 = 10052 := by decide
  rw [e40] at hopen
  rw [hM.2.2.1, mz_byteAt hM hp, ix_b1, F_X6_readOne_40_b41, cz_cur hC, ix_b1]
  dsimp only
  by_cases hop : sq_tp T n i < n ∧ T (sq_tp T n i) = 40
  rotate_left
  · -- a comparison
    have hb : ¬ (if sq_tp T n i < n then T (sq_tp T n i) else -1) = 40 := by
      by_cases hpn : sq_tp T n i < n
      · rw [if_pos hpn]; exact fun z => hop ⟨hpn, z⟩
      · rw [if_neg hpn]; decide
    rw [if_neg (fun z => hop (hopen.mp z)), if_neg hb, F_X12_one_82_b124]
    rcases sim_cmp (pd := pd + x) h (by omega) (show u < 9 by omega) with ⟨i', k', sc', sm', a1, a2, a3, a4, a5, a6, a7, a8⟩ | ⟨i', sc', sm', a1, a2, a3, a4, a5⟩
    · rw [a1, a2, ix_b1, ix_b1]
      dsimp only
      rw [if_neg z1]
      exact sim_fin a3 (by omega) hx a8 a6 a7 (by omega)
    · rw [a1, a2, ix_b1, ix_b1]
      dsimp only
      rw [if_pos z0, mz_b128F a3.2.2]
      exact Or.inr ⟨i', sc', sm', rfl, rfl, a3, a4, a5⟩
  rw [if_pos (hopen.mpr hop), if_pos hop.1, if_pos hop.2, h26]
  by_cases ho3 : o < 3
  rotate_left
  · -- the fourth "("
    have ho' : o = 3 := by omega
    subst ho'
    obtain ⟨m1, b1, b2, b3, b4⟩ := mz_no (k := k) hM h28
    obtain ⟨m2, e2⟩ : ∃ m2, m2 = am_sI m1 82 26 (m1.1 82 26 + 1) := ⟨_, rfl⟩
    obtain ⟨m3, e3⟩ : ∃ m3, m3 = am_sI m2 82 26 (m2.1 82 26 - 1) := ⟨_, rfl⟩
    have h26' : m1.1 82 26 = Int32.ofNat 3 := (b4.1 82 26 (by rfl)).trans h26
    have g28 : m2.1 82 28 = 1 := by rw [e2, ix_sIj (by decide)]; exact b3
    have hm3 : m3 = m1 := by
      have e26 : m2.1 82 26 = Int32.ofNat 4 := by rw [e2, ix_sIs, h26']; rfl
      refine Prod.ext ?_ (by rw [e3, e2]; rfl)
      funext a b
      rw [e3, ix_sI, e26]
      by_cases hab : a = 82 ∧ b = 26
      · rw [if_pos hab, hab.1, hab.2, h26']; rfl
      · rw [if_neg hab, e2, ix_sI, if_neg hab]
    right
    refine ⟨i, sc, m1, ?_, ?_, ⟨hC, b2, b3⟩, ix_F2.rf, b4⟩
    · rw [if_neg (show ¬ Int32.ofNat 3 < 3 by decide)]
    · rw [if_pos (show (3 : Int32) ≤ Int32.ofNat 3 by decide), F_X12_one_82_b65, b1, ix_b1, ix_b1, ← e2, hF m2 g28, ix_b1, ix_b1, ← e3, hm3, b3, if_neg z1, F_X12_one_82_b117, F_X12_one_82_b118, mz_wF b3, ix_b1, mz_b128F b3]
  have olt : Int32.ofNat o < 3 := by rw [ix_ltL (by omega) (by omega)]; exact ho3
  rw [if_pos olt, if_neg (Int32.not_le.mpr olt), F_X12_one_82_b65, ix_b1, ix_addL]
  obtain ⟨u1, u2, u3⟩ := sq_CP_up hC hop.1
  obtain ⟨c1, ec1⟩ : ∃ c1, c1 = am_sI sc 40 5 (Int32.ofNat (i + 1)) := ⟨_, rfl⟩
  rw [← ec1] at u1 u2 u3
  obtain ⟨m1, b1, b2, b3, -, b5, b6, b7⟩ := mz_go (k := k) hM h28
  have g26 : m1.1 82 26 = Int32.ofNat o := (b7.1 82 26 (by rfl)).trans h26
  have hR1 : sq_RL T n c (i + 1) k c1 m1 := ⟨u2, b2, b3, b5.trans h27, (u3.1 44 1 (by rfl)).trans h44, fun q hq => by rw [u3.1 49 q (by rfl), b6]; exact hcd q hq⟩
  obtain ⟨m2, e2⟩ : ∃ m2, m2 = am_sI m1 82 26 (Int32.ofNat (o + 1)) := ⟨_, rfl⟩
  have hR2 : sq_RL T n c (i + 1) k c1 m2 := by rw [e2]; exact sq_RL_26 hR1
  have g2 : m2.1 82 26 = Int32.ofNat (o + 1) := by rw [e2, ix_sIs]
  rw [u1, b1, ix_b1, g26, ix_addL, ix_b1, ← e2]
  have hsub : Int32.ofNat (o + 1) - 1 = Int32.ofNat o := by
    have := ix_subL (o + 1) 1 (by show 1 ≤ o + 1; omega)
    exact this
  -- the state with 26 put back
  have hback : ∀ s : am_S, ix_F2 (sq_yM k) m2 s → ix_F2 (sq_yM k) sm (am_sI s 82 26 (Int32.ofNat o)) := by
    intro s f
    refine ⟨fun z j hzj => ?_, ?_⟩
    · rw [ix_sI]
      by_cases hab : z = 82 ∧ j = 26
      · rw [if_pos hab, hab.1, hab.2, h26]
      · rw [if_neg hab, f.1 z j hzj, e2, ix_sI, if_neg hab]
        exact b7.1 z j hzj
    · rw [ix_sI2, f.2, e2, ix_sI2]; exact b7.2
  rcases hrc ho3 T n c (pd + x) (i + 1) k u c1 m2 hR2 g2 (by omega) (by omega) with ⟨i', k', sc', sm', a1, a2, a3, a4, a5, a6, a7, a8⟩ | ⟨i', sc', sm', a1, a2, a3, a4, a5⟩
  rotate_left
  · -- the fault lies within
    rw [a1, a2, ix_b1, ix_b1]
    dsimp only
    have q26 : sm'.1 82 26 = Int32.ofNat (o + 1) := (a5.1 82 26 (by rfl)).trans g2
    rw [if_pos z0, q26, hsub, ix_b1]
    have q28 : (am_sI sm' 82 26 (Int32.ofNat o)).1 82 28 = 1 := by rw [ix_sIj (by decide)]; exact a3.2.2
    right
    refine ⟨i', sc', am_sI sm' 82 26 (Int32.ofNat o), rfl, ?_, ⟨a3.1, sq_MX_w a3.2.1 ⟨by omega, fun _ => by omega⟩, q28⟩, (sq_p5C u3).tr a4, hback _ a5⟩
    rw [q28, if_neg z1, F_X12_one_82_b117, F_X12_one_82_b118, mz_wF q28, ix_b1, mz_b128F q28]
  rw [a1, a2, ix_b1, ix_b1]
  dsimp only
  have q26 : sm'.1 82 26 = Int32.ofNat (o + 1) := (a7.1 82 26 (by rfl)).trans g2
  rw [if_neg z1, q26, hsub, ix_b1]
  obtain ⟨m3, e3⟩ : ∃ m3, m3 = am_sI sm' 82 26 (Int32.ofNat o) := ⟨_, rfl⟩
  have hR3 : sq_RL T n c i' k' sc' m3 := by rw [e3]; exact sq_RL_26 a3
  have f3 : ix_F2 (sq_yM k) sm m3 := by rw [e3]; exact hback _ a7
  have s3 : sq_sx (m3.1 83) k k' u (u + 1) := by rw [e3, ix_sIn (by decide)]; exact a8
  rw [← e3]
  obtain ⟨hC3, hM3, k28, k27, k44, kcd⟩ := id hR3
  obtain ⟨-, hp3, ht3, he3, -⟩ := sq_M_T hM3
  have hclose := sq_cc_S (b := 41) (p := sq_tp T n i') hT (Or.inr (Or.inl rfl))
  have e41 : sq_sg 41 = 10053 := by decide
  rw [e41] at hclose
  rw [k28, if_pos z0, hM3.2.2.1, mz_byteAt hM3 hp3, ix_b1]
  dsimp only
  rcases cz_goPast (x := 10053) hC3 (by decide) with ⟨r1, r2, sc4, r3, r4, r5⟩ | ⟨r1, r3⟩
  rotate_left
  · -- no ")"
    have hb : ¬ (if sq_tp T n i' < n then T (sq_tp T n i') else -1) = 41 := by
      by_cases hpn : sq_tp T n i' < n
      · rw [if_pos hpn]; exact fun z => r1 (hclose.mpr ⟨hpn, z⟩)
      · rw [if_neg hpn]; decide
    obtain ⟨m4, d1, d2, d3, d4⟩ := mz_no (k := k) hM3 k28
    rw [r3, ix_b1, if_neg hb, F_X12_one_82_b117, F_X12_one_82_b118, d1, ix_b1, mz_b128F d3]
    dsimp only
    rw [if_pos z0]
    exact Or.inr ⟨i', sc', m4, rfl, rfl, ⟨hC3, d2, d3⟩, (sq_p5C u3).tr a6, f3.tr d4⟩
  have hcl := hclose.mp r1
  obtain ⟨m4, d1, d2, d3, -, d5, d6, d7⟩ := mz_go (k := k) hM3 k28
  have r5' : ix_F2 sq_p5 sc' sc4 := r5
  rw [r3, ix_b1, if_pos hcl.1, if_pos hcl.2, F_X12_one_82_b118, d1, ix_b1]
  dsimp only
  rw [if_neg z1]
  have hR4 : sq_RL T n c (i' + 1) k' sc4 m4 := ⟨r4, d2, d3, d5.trans k27, (r5'.1 44 1 (by rfl)).trans k44, fun q hq => by rw [r5'.1 49 q (by rfl), d6]; exact kcd q hq⟩
  exact sim_fin hR4 (by omega) hx (by rw [d6]; exact s3) (((sq_p5C u3).tr a6).tr (sq_p5C r5')) (f3.tr d7) (by omega)
