/-! LAYER 2: rules agree (written by hand) -/
theorem sim_rulesL : ∀ (l : Nat) (T : Nat → Int32) (n c i k r fC fM : Nat) (sc sm : am_S), c - i ≤ l → l < fC → l + 1 < fM → sq_RU T n c i k sc sm → sq_rn (sm.1 83) = r →
    (∃ i' k' sc' sm', F_X6_readInto_40_17_b18 fC (Int32.ofNat r) sc = F_X6_readInto_40_17_b78 sc' ∧ F_X12_rules_82_b35 fM sm = F_X12_rules_82_b60 sm' ∧ sq_RU T n c i' k' sc' sm' ∧ ix_F2 sq_yCR sc sc' ∧ ix_F2 sq_yMR sm sm') ∨
    (∃ i' sc' sm', F_X6_readInto_40_17_b18 fC (Int32.ofNat r) sc = some ((-100 : Int32) - Int32.ofNat (sq_tp T n i'), sc') ∧ F_X12_rules_82_b35 fM sm = F_X12_rules_82_b60 sm' ∧ sq_FL T n c i' sc' sm' ∧ ix_F2 sq_yCR sc sc' ∧ ix_F2 sq_yMR sm sm') := by
  intro l
  induction l using Nat.strongRecOn with
  | ind l ih =>
  intro T n c i k r fC fM sc sm hl hfC hfM h hr
  obtain ⟨fC, rfl⟩ : ∃ g, fC = g + 1 := ⟨fC - 1, by omega⟩
  obtain ⟨fM, rfl⟩ : ∃ g, fM = g + 1 := ⟨fM - 1, by omega⟩
  obtain ⟨hL, h26, hki, ok, hR, hen⟩ := id h
  obtain ⟨hC, hM, h28, h27, h44, hcd⟩ := id hL
  obtain ⟨hT, hp, ht, he, hn⟩ := sq_M_T hM
  obtain ⟨ic, c200, clt⟩ := sq_CP_i hC
  have z1 : ¬ (1 : Int32) = 0 := by decide
  have z0 : (0 : Int32) = 0 := rfl
  have hr8 := (sq_rn_ok ok).1
  rw [hr] at hr8
  have hE := sq_cc_E (p := sq_tp T n i) hT
  rw [F_X6_readInto_40_17_b18, if_neg (by rw [ix_Llt (by omega) (by omega)]; omega), cz_cur hC, ix_b1, F_X12_rules_82_b35, if_pos h28, hM.2.1, hM.2.2.1]
  dsimp only
  by_cases hlt : sq_tp T n i < n
  rotate_left
  · left
    rw [if_pos (hE.mpr hlt), if_pos (by rw [ix_le (by omega) (by omega)]; omega)]
    exact ⟨i, k, sc, sm, rfl, rfl, h, ix_F2.rf, ix_F2.rf⟩
  have ilt := clt hlt
  rw [if_neg (fun z => hE.mp z hlt), if_neg (by rw [ix_le (by omega) (by omega)]; omega)]
  rcases sim_rule h hr with ⟨i', k', sc', sm', x1, x2, x3, x4, x5, x6, x7, x8⟩ | ⟨i', sc', sm', x1, x2, x3, x4, x5⟩
  · have hi' := (sq_CP_i x3.1.1).1
    rw [x1, x2, ix_b1, ix_b1]
    dsimp only
    rw [if_neg z1, ix_addL]
    rcases ih (l - 1) (by omega) T n c i' k' (r + 1) fC fM sc' sm' (by omega) (by omega) (by omega) x3 x5 with ⟨i2, k2, s2, m2, y1, y2, y3, y4, y5⟩ | ⟨i2, s2, m2, y1, y2, y3, y4, y5⟩
    · exact Or.inl ⟨i2, k2, s2, m2, y1, y2, y3, x7.tr y4, x8.tr y5⟩
    · exact Or.inr ⟨i2, s2, m2, y1, y2, y3, x7.tr y4, x8.tr y5⟩
  · right
    obtain ⟨fM, rfl⟩ : ∃ g, fM = g + 1 := ⟨fM - 1, by omega⟩
    obtain ⟨hC', hM', k28⟩ := id x3
    have hi' := (sq_CP_i hC').1
    have hni : (Int32.ofNat i').toNatClampNeg = i' := ix_nat (by omega)
    refine ⟨i', sc', sm', ?_, ?_, x3, x4, x5⟩
    · rw [x1, ix_b1]
      dsimp only
      rw [if_pos z0, sq_pC_40 hC', hC'.2.2.2.2.2.2, if_neg (by rw [ix_le (by omega) (by omega)]; omega), if_pos ((ix_in (by omega)).mpr (by omega)), hni, (hC'.1.2.2.2 i' (by omega)).2]
    · rw [x2, ix_b1, F_X12_rules_82_b35, k28, if_neg z1]
theorem mz_token0 {T : Nat → Int32} {n : Nat} {s : am_S} (hn : n ≤ 200) (h22 : s.1 82 22 = Int32.ofNat n) (h24 : s.1 82 24 = 0) (hT : ∀ i, i < n → s.1 92 i = T i ∧ sq_N (T i) 255) : ∃ s', F_X12_token_82 s = some s' ∧ sq_M T n 0 s' ∧ ix_F2 sq_pK s s' := by
  have h : sq_MX T n 0 0 (am_sI s 82 23 0) := ⟨hn, by rw [ix_sIj (by decide)]; exact h22, by rw [ix_sIs]; rfl, by rw [ix_sIj (by decide)]; exact h24, fun i hi => by rw [ix_sIn (by decide)]; exact hT i hi⟩
  obtain ⟨s', i1, i2, i3⟩ := mz_tokL (n - 0) 0 1000 _ (by omega) (by omega) h
  refine ⟨s', ?_, i2, (ix_F2.I (by rfl)).tr i3⟩
  rw [F_X12_token_82, h24, ix_b1]
  exact i1
theorem sq_Ok_R {m m' : Nat → Int32} (ok : sq_Ok m) (h : ∀ j, j < 72 → j ≠ 1 → m' j = m j) (hR : sq_OkR m') : sq_Ok m' := by
  obtain ⟨⟨c, c1, c2, c3⟩, ⟨t, e, t1, t2, t3, t4, t5⟩, a5, a6, a8, a24, a54, -⟩ := ok
  refine ⟨⟨c, c1, by rw [h 0 (by omega) (by omega)]; exact c2, fun v h1 h2 => by rw [h _ (by omega) (by omega)]; exact c3 v h1 h2⟩, ⟨t, e, t1, t2, t3, by rw [h 3 (by omega) (by omega)]; exact t4, by rw [h 2 (by omega) (by omega)]; exact t5⟩, by rw [h 5 (by omega) (by omega)]; exact a5, by rw [h 6 (by omega) (by omega)]; exact a6, fun j hj => by rw [h _ (by omega) (by omega)]; exact a8 j hj, fun v hv => ?_, fun r hr => ?_, hR⟩
  · rw [h _ (by omega) (by omega), h _ (by omega) (by omega), h _ (by omega) (by omega), h _ (by omega) (by omega), h _ (by omega) (by omega)]; exact a24 v hv
  · rw [h _ (by omega) (by omega), h _ (by omega) (by omega), h _ (by omega) (by omega)]; exact a54 r hr
theorem sq_R_R {x x' : Nat → Nat → Int32} {m m' : Nat → Int32} (R : sq_R x 8 m) (h : ∀ j, j < 72 → j ≠ 1 → m' j = m j) (hx : ∀ k, 8 ≤ k → k < 17 → x' k = x k) (hR : sq_RR x' 17 m') : sq_R x' 8 m' := by
  obtain ⟨a0, a1, a2, a3, a4, a5, a6, a7, a8, a9, a10, -⟩ := R
  have e8 := hx 8 (by omega) (by omega)
  have ec : sq_cs m' = sq_cs m := sq_cs_c (fun u hu => h _ (by omega) (by omega))
  refine ⟨by rw [e8, h 3 (by omega) (by omega)]; exact a0, by rw [e8, h 2 (by omega) (by omega)]; exact a1, by rw [e8, h 5 (by omega) (by omega)]; exact a2, by rw [e8, h 4 (by omega) (by omega)]; exact a3, by rw [e8, h 7 (by omega) (by omega)]; exact a4, by rw [e8, h 0 (by omega) (by omega)]; exact a5, by rw [e8, ec]; exact a6, by rw [e8, h 6 (by omega) (by omega)]; exact a7, fun j hj => ?_, fun v hv => ?_, fun r hr => ?_, hR⟩
  · rw [hx _ (by omega) (by omega), h _ (by omega) (by omega)]; exact a8 j hj
  · rw [hx (8 + 2) (by omega) (by omega), hx (8 + 3) (by omega) (by omega), hx (8 + 4) (by omega) (by omega), hx (8 + 5) (by omega) (by omega), h _ (by omega) (by omega), h _ (by omega) (by omega), h _ (by omega) (by omega), h _ (by omega) (by omega)]; exact a9 v hv
  · rw [hx (8 + 6) (by omega) (by omega), hx (8 + 7) (by omega) (by omega), hx (8 + 8) (by omega) (by omega), h _ (by omega) (by omega), h _ (by omega) (by omega), h _ (by omega) (by omega)]; exact a10 r hr
def sq_yRC (z j : Nat) : Bool := (z == 40 && j == 5) || (44 ≤ z && z < 50) || (17 ≤ z && z < 23)
def sq_yRM (z j : Nat) : Bool := (z == 82 && (22 ≤ j && j < 29)) || z == 83 || z == 85
/-- rules from the class's row of tokens on -/
theorem sim_rules {T : Nat → Int32} {n c : Nat} {s v : am_S} (hC : sq_CP T n c 0 s) (c0 : s.1 44 0 = 0) (c1 : s.1 44 1 = 0) (v22 : v.1 82 22 = Int32.ofNat n) (vT : ∀ i, i < n → v.1 92 i = T i ∧ sq_N (T i) 255) :
    ∃ a t w, F_X6_readInto_40_17_b18 1000 0 s = some (a, t) ∧ F_X12_rules_82 v = some (a, w) ∧ ix_F2 sq_yRC s t ∧ ix_F2 sq_yRM v w ∧ w.1 82 22 = 0 ∧
      ((sq_OkR (w.1 83) ∧ sq_RR t.1 17 (w.1 83) ∧ ∀ j, j < 72 → j ≠ 1 → w.1 83 j = v.1 83 j) ∨ ((∀ q, q < 296 → w.1 83 q = v.1 83 q) ∧ ∀ z, 17 ≤ z → z < 23 → t.1 z = s.1 z)) := by
  have hn := hC.2.2.1
  have c200 := (sq_CP_i hC).2.1
  have z1 : ¬ (1 : Int32) = 0 := by decide
  have z0 : (0 : Int32) = 0 := rfl
  have i1 : am_in (1 : Int32) 296 := (ix_inL (by omega)).mpr (by omega)
  have n1 : (1 : Int32).toNatClampNeg = 1 := rfl
  obtain ⟨v1, p1, p2, p3⟩ := mz_puts v
  obtain ⟨v2, e2⟩ : ∃ v2, v2 = am_sI v1 83 1 0 := ⟨_, rfl⟩
  obtain ⟨v3, e3⟩ : ∃ v3, v3 = am_sI v2 82 27 0 := ⟨_, rfl⟩
  obtain ⟨v4, e4⟩ : ∃ v4, v4 = am_sI v3 82 26 0 := ⟨_, rfl⟩
  obtain ⟨v5, e5⟩ : ∃ v5, v5 = am_sI v4 82 24 0 := ⟨_, rfl⟩
  obtain ⟨v6, e6⟩ : ∃ v6, v6 = am_sI v5 82 28 0 := ⟨_, rfl⟩
  have g22 : v6.1 82 22 = Int32.ofNat n := by
    rw [e6, ix_sIj (by decide), e5, ix_sIj (by decide), e4, ix_sIj (by decide), e3, ix_sIj (by decide), e2, ix_sIn (by decide), p3.1 82 rfl]; exact v22
  have g24 : v6.1 82 24 = 0 := by rw [e6, ix_sIj (by decide), e5, ix_sIs]
  have g26 : v6.1 82 26 = 0 := by rw [e6, ix_sIj (by decide), e5, ix_sIj (by decide), e4, ix_sIs]
  have g27 : v6.1 82 27 = 0 := by rw [e6, ix_sIj (by decide), e5, ix_sIj (by decide), e4, ix_sIj (by decide), e3, ix_sIs]
  have g28 : v6.1 82 28 = 0 := by rw [e6, ix_sIs]
  have g92 : v6.1 92 = v.1 92 := by
    rw [e6, ix_sIn (by decide), e5, ix_sIn (by decide), e4, ix_sIn (by decide), e3, ix_sIn (by decide), e2, ix_sIn (by decide), p3.1 92 rfl]
  have g83 : v6.1 83 = upd (v.1 83) 1 0 := by
    rw [e6, ix_sIn (by decide), e5, ix_sIn (by decide), e4, ix_sIn (by decide), e3, ix_sIn (by decide), e2, ix_sIf, p3.1 83 rfl]
  have g85 : ∀ q, q < 296 → v6.1 85 q = v.1 83 q := fun q hq => by
    rw [e6, ix_sIn (by decide), e5, ix_sIn (by decide), e4, ix_sIn (by decide), e3, ix_sIn (by decide), e2, ix_sIn (by decide)]; exact p2 q hq
  obtain ⟨v7, k1, k2, k3⟩ := mz_token0 hn g22 g24 (fun i hi => by rw [g92]; exact vT i hi)
  have f7 : ix_F2 sq_yRM v v7 := by
    have f6 : ix_F2 sq_yRM v1 v6 := by
      rw [e6, e5, e4, e3, e2]
      exact ((((ix_F2.I (by rfl)).tr (ix_F2.I (by rfl))).tr (ix_F2.I (by rfl))).tr (ix_F2.I (by rfl))).tr (ix_F2.I (by rfl))
    exact ((p3.F2 (fun z j hk => by unfold sq_yRM at hk; simp at hk ⊢; omega)).tr f6).tr (k3.wd (fun z j hk => by unfold sq_yRM at hk; unfold sq_pK; simp at hk ⊢; omega))
  have h83 : v7.1 83 = upd (v.1 83) 1 0 := by
    rw [← g83]; exact funext fun q => k3.1 83 q (by unfold sq_pK; simp)
  have hrn : sq_rn (v7.1 83) = 0 := by unfold sq_rn; rw [h83, ix_ups]; rfl
  have hU : sq_RU T n c 0 0 s v7 := by
    refine ⟨⟨hC, k2, (k3.1 82 28 (by rfl)).trans g28, (k3.1 82 27 (by rfl)).trans g27, c1, fun q hq => by omega⟩, (k3.1 82 26 (by rfl)).trans g26, Nat.le_refl _, ⟨⟨0, by omega, by rw [h83, ix_ups]; rfl⟩, fun r hr => by rw [hrn] at hr; omega⟩, ⟨by rw [c0, h83, ix_ups], by rw [c1, hrn]; rfl, fun r hr => by rw [hrn] at hr; omega, fun q hq => by rw [hrn] at hq; exact absurd hq (Nat.not_lt_zero q)⟩, by rw [hrn]; rfl⟩
  have hM : F_X12_rules_82 v = F_X12_rules_82_b35 1000 v7 := by
    rw [F_X12_rules_82, p1, ix_b1, if_pos i1, n1, ix_b1, ← e2, ix_b1, ← e3, ix_b1, ← e4, ix_b1, ← e5, ix_b1, ← e6, k1, ix_b1]
  have hz : Int32.ofNat 0 = 0 := rfl
  have fyR : ∀ {a b : am_S}, ix_F2 sq_yMR a b → ix_F2 sq_yRM a b := fun f => f.wd (fun z j hk => by unfold sq_yRM at hk; unfold sq_yMR; simp at hk ⊢; omega)
  have fyC : ∀ {a b : am_S}, ix_F2 sq_yCR a b → ix_F2 sq_yRC a b := fun f => f.wd (fun z j hk => by unfold sq_yRC at hk; unfold sq_yCR; simp at hk ⊢; omega)
  have hsim := sim_rulesL (c - 0) T n c 0 0 0 1000 1000 s v7 (Nat.le_refl _) (by omega) (by omega) hU hrn
  rw [hz] at hsim
  rcases hsim with ⟨i', k', sc', sm', y1, y2, y3, y4, y5⟩ | ⟨i', sc', sm', y1, y2, y3, y4, y5⟩
  · -- read
    obtain ⟨hL, q26, hki, ok, hR, hen⟩ := y3
    obtain ⟨hC', hM', q28, q27, q44, qcd⟩ := hL
    have ic' := (sq_CP_i hC').1
    obtain ⟨t, b1, b2, b3, b4, b5⟩ := cz_bl7_17_44 (s := sc') (n := k') (by omega) q44
    have hrn' := sq_rn_ok ok
    refine ⟨sm'.1 83 1, t, am_sI sm' 82 22 0, ?_, ?_, ?_, ?_, ix_sIs, Or.inl ⟨?_, ?_, fun j j1 j2 => ?_⟩⟩
    · rw [y1, F_X6_readInto_40_17_b78, b1, ix_b1, b2 0 (by omega), hR.1]
    · rw [hM, y2, F_X12_rules_82_b60, ix_b1, ix_sIj (by decide), q28, if_pos z0, if_pos i1, n1, ix_sIn (by decide)]
    · exact (fyC y4).tr (b5.F2 (fun z j hk => by unfold sq_yRC at hk; simp at hk ⊢; omega))
    · exact (f7.tr (fyR y5)).tr (ix_F2.I (by rfl))
    · rw [ix_sIn (by decide)]; exact ok
    · rw [ix_sIn (by decide)]
      obtain ⟨r0, r1, r2, r3⟩ := hR
      refine ⟨by rw [b2 0 (by omega)]; exact r0, by rw [b2 1 (by omega)]; exact r1, fun r hr => ?_, fun q hq => ?_⟩
      · rw [b3 1 (by omega) (by omega) r (by omega), b3 2 (by omega) (by omega) r (by omega), b3 3 (by omega) (by omega) r (by omega), b3 4 (by omega) (by omega) r (by omega)]
        exact r2 r hr
      · rw [b4 q (by omega)]; exact r3 q hq
    · rw [ix_sIn (by decide), y5.1 83 j (by unfold sq_yMR; simp; omega), h83, ix_upn j2]
  · -- a fault
    obtain ⟨hC', hM', q28⟩ := y3
    obtain ⟨w, w1, w2, w3⟩ := mz_backL 296 0 1000 (am_sI sm' 82 22 0) (by omega) (by omega)
    rw [hz] at w1
    have w82 : w.1 82 = (am_sI sm' 82 22 0).1 82 := w3.1 82 rfl
    refine ⟨-100 - Int32.ofNat (sq_tp T n i'), sc', w, y1, ?_, fyC y4, ?_, ?_, Or.inr ⟨fun q hq => ?_, fun z g1 g2 => funext fun q => y4.1 z q (by unfold sq_yCR; simp; omega)⟩⟩
    · rw [hM, y2, F_X12_rules_82_b60, ix_b1, ix_sIj (by decide), q28, if_neg z1, F_X12_putsBack_82, w1, ix_b1, w82, ix_sIj (by decide), hM'.2.2.1]
    · exact ((f7.tr (fyR y5)).tr (ix_F2.I (by rfl))).tr (w3.F2 (fun z j hk => by unfold sq_yRM at hk; simp at hk ⊢; omega))
    · rw [w82, ix_sIs]
    · rw [w2 q, if_pos ⟨Nat.zero_le _, hq⟩, ix_sIn (by decide), y5.1 85 q (by unfold sq_yMR; simp), k3.1 85 q (by unfold sq_pK; simp)]
      exact g85 q hq
theorem ag_rules : jz_A F_X11_rules_0 F_X12_rules_82 := by
  intro s j
  obtain ⟨ok, R⟩ := j.1
  obtain ⟨n, hn, t1, t2, t3⟩ := j.2.2.1
  obtain ⟨s1, c, a1, a2, a3, a4, a5, a6⟩ := cz_split (T := s.1 41) hn t1 rfl
  obtain ⟨s2, e2⟩ : ∃ s2, s2 = am_sI s1 40 5 0 := ⟨_, rfl⟩
  obtain ⟨s3, e3⟩ : ∃ s3, s3 = am_sI s2 44 0 0 := ⟨_, rfl⟩
  obtain ⟨s4, e4⟩ : ∃ s4, s4 = am_sI s3 44 1 0 := ⟨_, rfl⟩
  have hC4 : sq_CP (s.1 41) n c 0 s4 := by
    have h2 : sq_CP (s.1 41) n c 0 s2 := by
      obtain ⟨b0, b1, b2, b3⟩ := a2
      rw [e2]
      exact ⟨⟨by rw [ix_sIj (by decide)]; exact b0, by rw [ix_sIn (by decide)]; exact b1, by rw [ix_sIj (by decide)]; exact b2, fun q hq => by rw [ix_sIn (by decide), ix_sIn (by decide)]; exact b3 q hq⟩, a3, hn, a4, a5, Nat.zero_le _, ix_sIs⟩
    rw [e4, e3]
    exact sq_CP_c (sq_CP_c h2 (by omega)) (by omega)
  have c0 : s4.1 44 0 = 0 := by rw [e4, ix_sIj (by decide), e3, ix_sIs]
  have c1 : s4.1 44 1 = 0 := by rw [e4, ix_sIs]
  have f4 : ix_F2 sq_pS s s4 := by
    have f : ix_F2 sq_pS s1 s4 := by
      rw [e4, e3, e2]
      exact ((ix_F2.I (by rfl)).tr (ix_F2.I (by rfl))).tr (ix_F2.I (by rfl))
    exact (a6.wd (fun z j hk => by unfold sq_pS at hk; unfold sq_pT; simp at hk ⊢; omega)).tr f
  have hX : F_X11_rules_0 s = ((F_X6_readInto_40_17_b18 1000 0 s4).bind fun q1 => ((F_X6_useUp_40 q1.2).bind fun q3 => (some (q1.1, q3)))) := by
    rw [F_X11_rules_0, F_X6_readInto_40_17, a1, ix_b1, ix_b1, ← e2, F_X7_clear_44, ix_b1, ← e3, ix_b1, ← e4, ix_b1]
  obtain ⟨a, t, w0, x1, -, x3, -⟩ := sim_rules (v := s) hC4 c0 c1 t2 (fun i hi => ⟨(t3 i hi).1.symm, (t3 i hi).2⟩)
  obtain ⟨u, eu⟩ : ∃ u, u = am_sI t 40 0 0 := ⟨_, rfl⟩
  have fu : ix_F2 sq_pST s u := by
    have fa : ix_F2 sq_pST s s4 := f4.wd (fun z j hk => by unfold sq_pST at hk; simp at hk; exact hk.1.1.1.1)
    have fb : ix_F2 sq_pST s4 t := x3.wd (fun z j hk => by unfold sq_pST sq_pS at hk; unfold sq_yRC; simp at hk ⊢; omega)
    rw [eu]
    exact (fa.tr fb).tr (ix_F2.I (by rfl))
  have u82 : u.1 82 22 = Int32.ofNat n := by
    rw [eu, ix_sIn (by decide), x3.1 82 22 (by rfl), f4.1 82 22 (by rfl)]; exact t2
  have u92 : ∀ i, u.1 92 i = s.1 92 i := fun i => by
    rw [eu, ix_sIn (by decide), x3.1 92 i (by rfl), f4.1 92 i (by rfl)]
  have u83 : ∀ i, u.1 83 i = s.1 83 i := fun i => by
    have h1 : s4.1 83 i = s.1 83 i := by
      rw [e4, ix_sIn (by decide), e3, ix_sIn (by decide), e2, ix_sIn (by decide)]
      exact a6.1 83 i (by rfl)
    rw [eu, ix_sIn (by decide), x3.1 83 i (by rfl), h1]
  obtain ⟨a', t', w, y1, y2, y3, y4, y5, y6⟩ := sim_rules (v := u) hC4 c0 c1 u82 (fun i hi => ⟨by rw [u92]; exact (t3 i hi).1.symm, (t3 i hi).2⟩)
  have hat : a = a' ∧ t = t' := by
    rw [x1] at y1
    have := Option.some.inj y1
    exact ⟨congrArg Prod.fst this, congrArg Prod.snd this⟩
  obtain ⟨rfl, rfl⟩ := hat
  have fw : ix_F2 sq_pST s w := fu.tr (y4.wd (fun z j hk => by unfold sq_pST sq_pS at hk; unfold sq_yRM; simp at hk ⊢; omega))
  have wt : ∀ z, 8 ≤ z → z < 23 → w.1 z = t.1 z := fun z h1 h2 => by
    have e : w.1 z = u.1 z := funext fun q => y4.1 z q (by unfold sq_yRM; simp; omega)
    rw [e, eu, ix_sIn (by omega)]
  have t16 : ∀ z, 8 ≤ z → z < 17 → t.1 z = s.1 z := fun z h1 h2 => funext fun q => by
    rw [x3.1 z q (by unfold sq_yRC; simp; omega), e4, ix_sIn (by omega), e3, ix_sIn (by omega), e2, ix_sIn (by omega)]
    exact a6.1 z q (by unfold sq_pT; simp; omega)
  refine ⟨a, u, w, ?_, y2, jz_keepT j fw ?_ ⟨0, by omega, ?_, y5, fun i hi => by omega⟩⟩
  · rw [hX, x1, ix_b1, F_X6_useUp_40, ix_b1]
    dsimp only
    rw [ix_b1, ← eu]
  · rcases y6 with ⟨o1, o2, o3⟩ | ⟨o1, o2⟩
    · have hm : ∀ j, j < 72 → j ≠ 1 → w.1 83 j = s.1 83 j := fun j j1 j2 => by rw [o3 j j1 j2, u83]
      refine ⟨sq_Ok_R ok hm o1, sq_R_R R hm (fun k k1 k2 => by rw [wt k k1 (by omega), t16 k k1 k2]) (sq_RR_c rfl (fun _ _ => rfl) (fun k k1 k2 => wt k (by omega) (by omega)) o2)⟩
    · have hm : ∀ j, j < 296 → w.1 83 j = s.1 83 j := fun j j1 => by rw [o1 j j1, u83]
      refine ⟨sq_Ok_d hm ok, sq_R_d ok hm (sq_R_fr (fun k k1 k2 => ?_) R)⟩
      rw [wt k k1 k2]
      by_cases h17 : k < 17
      · exact t16 k k1 h17
      · rw [o2 k (by omega) k2, e4, ix_sIn (by omega), e3, ix_sIn (by omega), e2, ix_sIn (by omega)]
        exact funext fun q => a6.1 k q (by unfold sq_pT; simp; omega)
  · rw [y4.1 40 0 (by rfl), eu, ix_sIs]; rfl
