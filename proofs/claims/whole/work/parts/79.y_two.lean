/-! LAYER 2: class and model read alike: the loops of ONE, ALL, COND (written by hand) -/
theorem sq_RL_go {T : Nat → Int32} {n c i k : Nat} {sc sm sc1 sm1 : am_S} (h : sq_RL T n c i k sc sm) (g1 : sq_CP T n c (i + 1) sc1) (g2 : ix_F2 sq_p5 sc sc1) (b2 : sq_M T n (i + 1) sm1) (b3 : sm1.1 82 28 = 0) (b5 : sm1.1 82 27 = sm.1 82 27) (b6 : sm1.1 83 = sm.1 83) : sq_RL T n c (i + 1) k sc1 sm1 := by
  obtain ⟨hC, hM, h28, h27, h44, hcd⟩ := h
  exact ⟨g1, b2, b3, b5.trans h27, (g2.1 44 1 (by rfl)).trans h44, fun q hq => by rw [g2.1 49 q (by rfl), b6]; exact hcd q hq⟩
theorem sim_oneL {o : Nat} {rcC : Int32 → am_S → Option (Int32 × am_S)} {rcM : am_S → Option am_S} (hrc : o < 3 → sq_CN (o + 1) rcC rcM) (hF : ∀ s, s.1 82 28 = 1 → rcM s = some s) (ho : o ≤ 3) : ∀ (l : Nat) (T : Nat → Int32) (n c i y fC fM pd k u x : Nat) (sc sm : am_S), c - i ≤ l → l < fC → l < fM → sq_RL T n c i k sc sm → sm.1 82 26 = Int32.ofNat o → k + pd + x ≤ i → (x = 0 ∨ x = 1) → u ≤ 2 * o + 2 → y ≤ i → sq_OU T n c pd i k u (u + 1) sc sm (F_X6_readOne_40_b7 rcC fC (Int32.ofNat o) (Int32.ofNat x) (Int32.ofNat y) sc) (F_X12_one_82_b2 rcM fM (Int32.ofNat x) sm) := by
  intro l
  induction l using Nat.strongRecOn with
  | ind l ih =>
  intro T n c i y fC fM pd k u x sc sm hl hfC hfM h h26 hk hx hu hy
  obtain ⟨fC, rfl⟩ : ∃ g, fC = g + 1 := ⟨fC - 1, by omega⟩
  obtain ⟨fM, rfl⟩ : ∃ g, fM = g + 1 := ⟨fM - 1, by omega⟩
  obtain ⟨hC, hM, h28, h27, h44, hcd⟩ := id h
  obtain ⟨hT, hp, ht, he, hn⟩ := sq_M_T hM
  obtain ⟨ic, c200, clt⟩ := sq_CP_i hC
  have z1 : ¬ (1 : Int32) = 0 := by decide
  have z0 : (0 : Int32) = 0 := rfl
  have hW := sq_cc_W (k := 15) hp hT (by omega)
  have e15 : sq_WW 15 = 10020 := by decide
  rw [e15] at hW
  have hx15 := sq_wx15 hM ht
  rw [F_X6_readOne_40_b7, sq_pC_40 hC, if_neg (by rw [ix_le (by omega) (by omega)]; omega), F_X12_one_82_b2, mz_wordx hM ht, ix_b1]
  dsimp only
  rcases cz_goPast (x := 10020) hC (by decide) with ⟨r1, r2, sc1, r3, r4, r5⟩ | ⟨r1, r3⟩
  rotate_left
  · rw [r3, ix_b1, if_neg (fun z => r1 (hW.mpr (hx15.mp z).2)), if_pos h28]
    dsimp only
    rw [if_pos z0]
    exact sim_b41 hrc hF ho h h26 hk hx hu
  have r5' : ix_F2 sq_p5 sc sc1 := r5
  have hi := clt r2
  obtain ⟨m1, b1, b2, b3, -, b5, b6, b7⟩ := mz_go (k := k) hM h28
  have hR1 := sq_RL_go h r4 r5' b2 b3 b5 b6
  have g26 : m1.1 82 26 = Int32.ofNat o := (b7.1 82 26 (by rfl)).trans h26
  rw [r3, ix_b1, if_pos (hx15.mpr ⟨h28, hW.mp r1⟩)]
  dsimp only
  rw [if_neg z1]
  rcases hx with rfl | rfl
  · have hxz : Int32.ofNat 0 = 0 := rfl
    rw [if_pos hxz, if_pos hxz, F_X6_readOne_40_b34, F_X12_one_82_b22, b1, ix_b1, ix_addL]
    exact sq_OU_seq (sq_p5C r5') b7 sq_sx_rf (by omega) (ih (l - 1) (by omega) T n c (i + 1) (y + 1) fC fM pd k u 1 sc1 m1 (by omega) (by omega) (by omega) hR1 g26 (by omega) (Or.inr rfl) hu (by omega))
  · have hxz : ¬ Int32.ofNat 1 = 0 := by decide
    rw [if_neg hxz, if_neg hxz, F_X6_readOne_40_b34, F_X12_one_82_b22, b1, ix_b1, ix_addL]
    exact sq_OU_seq (sq_p5C r5') b7 sq_sx_rf (by omega) (ih (l - 1) (by omega) T n c (i + 1) (y + 1) fC fM pd k u 0 sc1 m1 (by omega) (by omega) (by omega) hR1 g26 (by omega) (Or.inl rfl) hu (by omega))
theorem sim_one {o : Nat} {rcC : Int32 → am_S → Option (Int32 × am_S)} {rcM : am_S → Option am_S} (hrc : o < 3 → sq_CN (o + 1) rcC rcM) (hF : ∀ s, s.1 82 28 = 1 → rcM s = some s) (ho : o ≤ 3) {T : Nat → Int32} {n c i pd k u : Nat} {sc sm : am_S} (h : sq_RL T n c i k sc sm) (h26 : sm.1 82 26 = Int32.ofNat o) (hk : k + pd ≤ i) (hu : u ≤ 2 * o + 2) : sq_OU T n c pd i k u (u + 1) sc sm (F_X6_readOne_40 rcC (Int32.ofNat o) sc) (F_X12_one_82 rcM sm) := by
  have hc := sq_CP_i h.1
  have hg := sim_oneL hrc hF ho (c - i) T n c i i 1000 1000 pd k u 0 sc sm (Nat.le_refl _) (by omega) (by omega) h h26 (by omega) (Or.inl rfl) hu (Nat.le_refl _)
  rw [F_X6_readOne_40, h.1.2.2.2.2.2.2, F_X12_one_82]
  exact hg
theorem mz_wordF {T : Nat → Int32} {n i : Nat} {s : am_S} (h : sq_M T n i s) (h28 : s.1 82 28 = 1) : ∃ x, F_X12_word_82 s = some (x, s) ∧ ¬ lg_cmp x 1476 = 0 ∧ ¬ lg_cmp x 498 = 0 ∧ ¬ lg_cmp x 294 = 0 ∧ ¬ lg_cmp x 365744 = 0 ∧ ¬ lg_cmp x 215205 = 0 ∧ ¬ lg_cmp x 624020 = 0 := by
  obtain ⟨hT, hp, ht, he, hn⟩ := sq_M_T h
  have z : ¬ s.1 82 28 = 0 := by rw [h28]; decide
  exact ⟨_, mz_wordx h ht, fun g => z ((sq_wx16 h ht).mp g).1, fun g => z ((sq_wx17 h ht).mp g).1, fun g => z ((sq_wx14 h ht).mp g).1, fun g => z ((sq_wx11 h ht).mp g).1, fun g => z ((sq_wx12 h ht).mp g).1, fun g => z ((sq_wx13 h ht).mp g).1⟩
theorem mz_allF {T : Nat → Int32} {n i f : Nat} {rc : am_S → Option am_S} {s : am_S} (h : sq_M T n i s) (h28 : s.1 82 28 = 1) : F_X12_all_82_b4 rc (f + 1) s = some s := by
  obtain ⟨x, x1, x2, -⟩ := mz_wordF h h28
  rw [F_X12_all_82_b4, x1, ix_b1]
  dsimp only
  rw [if_neg x2]
theorem mz_condF {T : Nat → Int32} {n i f : Nat} {rc : am_S → Option am_S} {s : am_S} (h : sq_M T n i s) (h28 : s.1 82 28 = 1) : F_X12_condition_82_b12 rc (f + 1) s = some s := by
  obtain ⟨x, x1, -, x2, -⟩ := mz_wordF h h28
  rw [F_X12_condition_82_b12, x1, ix_b1]
  dsimp only
  rw [if_neg x2]
theorem sim_allL {o : Nat} {rcC : Int32 → am_S → Option (Int32 × am_S)} {rcM : am_S → Option am_S} (hrc : o < 3 → sq_CN (o + 1) rcC rcM) (hF : ∀ s, s.1 82 28 = 1 → rcM s = some s) (ho : o ≤ 3) : ∀ (l : Nat) (T : Nat → Int32) (n c i y fC fM pd k u : Nat) (sc sm : am_S), c - i ≤ l → l < fC → l < fM → sq_RL T n c i k sc sm → sm.1 82 26 = Int32.ofNat o → k + pd ≤ i → u ≤ 2 * o + 1 → y ≤ i → sq_OU T n c pd i k (u + 1) (u + 1) sc sm (F_X6_readAll_40_b15 rcC fC (Int32.ofNat o) (Int32.ofNat y) sc) (F_X12_all_82_b4 rcM fM sm) := by
  intro l
  induction l using Nat.strongRecOn with
  | ind l ih =>
  intro T n c i y fC fM pd k u sc sm hl hfC hfM h h26 hk hu hy
  obtain ⟨fC, rfl⟩ : ∃ g, fC = g + 1 := ⟨fC - 1, by omega⟩
  obtain ⟨fM, rfl⟩ : ∃ g, fM = g + 1 := ⟨fM - 1, by omega⟩
  obtain ⟨hC, hM, h28, h27, h44, hcd⟩ := id h
  obtain ⟨hT, hp, ht, he, hn⟩ := sq_M_T hM
  obtain ⟨ic, c200, clt⟩ := sq_CP_i hC
  have z1 : ¬ (1 : Int32) = 0 := by decide
  have z0 : (0 : Int32) = 0 := rfl
  have hW := sq_cc_W (k := 16) hp hT (by omega)
  have e16 : sq_WW 16 = 10021 := by decide
  rw [e16] at hW
  have hx16 := sq_wx16 hM ht
  rw [F_X6_readAll_40_b15, sq_pC_40 hC, if_neg (by rw [ix_le (by omega) (by omega)]; omega), F_X12_all_82_b4, mz_wordx hM ht, ix_b1]
  dsimp only
  rcases cz_goPast (x := 10021) hC (by decide) with ⟨r1, r2, sc1, r3, r4, r5⟩ | ⟨r1, r3⟩
  rotate_left
  · rw [r3, ix_b1, if_neg (fun z => r1 (hW.mpr (hx16.mp z).2))]
    dsimp only
    rw [if_pos z0]
    exact Or.inl ⟨i, k, sc, sm, rfl, rfl, h, Nat.le_refl _, hk, ix_F2.rf, ix_F2.rf, sq_sx_rf⟩
  have r5' : ix_F2 sq_p5 sc sc1 := r5
  have hi := clt r2
  obtain ⟨m1, b1, b2, b3, -, b5, b6, b7⟩ := mz_go (k := k) hM h28
  have hR1 := sq_RL_go h r4 r5' b2 b3 b5 b6
  have g26 : m1.1 82 26 = Int32.ofNat o := (b7.1 82 26 (by rfl)).trans h26
  rw [r3, ix_b1, if_pos (hx16.mpr ⟨h28, hW.mp r1⟩), b1, ix_b1]
  dsimp only
  rw [if_neg z1]
  rcases sim_one hrc hF ho (pd := pd + 1) (u := u + 1) hR1 g26 (by omega) (by omega) with ⟨i', k', sc', sm', a1, a2, a3, a4, a5, a6, a7, a8⟩ | ⟨i', sc', sm', a1, a2, a3, a4, a5⟩
  rotate_left
  · rw [a1, a2, ix_b1, ix_b1]
    dsimp only
    obtain ⟨fM, rfl⟩ : ∃ g, fM = g + 1 := ⟨fM - 1, by omega⟩
    rw [if_pos z0, mz_writesF a3.2.2, ix_b1, mz_allF a3.2.1 a3.2.2]
    exact Or.inr ⟨i', sc', sm', rfl, rfl, a3, (sq_p5C r5').tr a4, b7.tr a5⟩
  have hc' := sq_CP_i a3.1
  obtain ⟨sc2, m2, p1, p2, p3, p4, p5, p6⟩ := sq_push (x := 10021) (y := -21) a3 (by omega) (by decide)
  have g26' : m2.1 82 26 = Int32.ofNat o := (p5.1 82 26 (by rfl)).trans ((a7.1 82 26 (by rfl)).trans g26)
  rw [a1, a2, ix_b1, ix_b1]
  dsimp only
  rw [if_neg z1, p1, p2, ix_b1, ix_b1, ix_addL]
  have hk' := a8.1
  exact sq_OU_seq (((sq_p5C r5').tr a6).tr p4) ((b7.tr a7).tr (sq_pM_le hk' p5)) (sq_sx_tr a8 (sq_sx_bin (Or.inl p6)) (fun q hq => sq_pM_q p5 hq)) (by omega) (ih (l - 1) (by omega) T n c i' (y + 1) fC fM pd (k' + 1) u sc2 m2 (by omega) (by omega) (by omega) p3 g26' (by omega) hu (by omega))
theorem sim_all {o : Nat} {rcC : Int32 → am_S → Option (Int32 × am_S)} {rcM : am_S → Option am_S} (hrc : o < 3 → sq_CN (o + 1) rcC rcM) (hF : ∀ s, s.1 82 28 = 1 → rcM s = some s) (ho : o ≤ 3) {T : Nat → Int32} {n c i pd k u : Nat} {sc sm : am_S} (h : sq_RL T n c i k sc sm) (h26 : sm.1 82 26 = Int32.ofNat o) (hk : k + pd ≤ i) (hu : u ≤ 2 * o + 1) : sq_OU T n c pd i k u (u + 1) sc sm (F_X6_readAll_40 rcC (Int32.ofNat o) sc) (F_X12_all_82 rcM sm) := by
  have z1 : ¬ (1 : Int32) = 0 := by decide
  have z0 : (0 : Int32) = 0 := rfl
  rw [F_X6_readAll_40, F_X12_all_82]
  rcases sim_one hrc hF ho (pd := pd) (u := u) h h26 (by omega) (by omega) with ⟨i', k', sc', sm', a1, a2, a3, a4, a5, a6, a7, a8⟩ | ⟨i', sc', sm', a1, a2, a3, a4, a5⟩
  rotate_left
  · rw [a1, a2, ix_b1, ix_b1]
    dsimp only
    rw [if_pos z0, mz_allF a3.2.1 a3.2.2]
    exact Or.inr ⟨i', sc', sm', rfl, rfl, a3, a4, a5⟩
  have hc := sq_CP_i a3.1
  have g26 : sm'.1 82 26 = Int32.ofNat o := (a7.1 82 26 (by rfl)).trans h26
  rw [a1, a2, ix_b1, ix_b1]
  dsimp only
  rw [if_neg z1, a3.1.2.2.2.2.2.2]
  exact sq_OU_seq a6 a7 a8 a4 (sim_allL hrc hF ho (c - i') T n c i' i' 1000 1000 pd k' u sc' sm' (Nat.le_refl _) (by omega) (by omega) a3 g26 a5 hu (Nat.le_refl _))
theorem sim_condL {o : Nat} {rcC : Int32 → am_S → Option (Int32 × am_S)} {rcM : am_S → Option am_S} (hrc : o < 3 → sq_CN (o + 1) rcC rcM) (hF : ∀ s, s.1 82 28 = 1 → rcM s = some s) (ho : o ≤ 3) : ∀ (l : Nat) (T : Nat → Int32) (n c i y fC fM pd k u : Nat) (sc sm : am_S), c - i ≤ l → l < fC → l < fM → sq_RL T n c i k sc sm → sm.1 82 26 = Int32.ofNat o → k + pd ≤ i → u ≤ 2 * o → y ≤ i → sq_OU T n c pd i k (u + 1) (u + 1) sc sm (F_X6_readCondition_40_b15 rcC fC (Int32.ofNat o) (Int32.ofNat y) sc) (F_X12_condition_82_b12 rcM fM sm) := by
  intro l
  induction l using Nat.strongRecOn with
  | ind l ih =>
  intro T n c i y fC fM pd k u sc sm hl hfC hfM h h26 hk hu hy
  obtain ⟨fC, rfl⟩ : ∃ g, fC = g + 1 := ⟨fC - 1, by omega⟩
  obtain ⟨fM, rfl⟩ : ∃ g, fM = g + 1 := ⟨fM - 1, by omega⟩
  obtain ⟨hC, hM, h28, h27, h44, hcd⟩ := id h
  obtain ⟨hT, hp, ht, he, hn⟩ := sq_M_T hM
  obtain ⟨ic, c200, clt⟩ := sq_CP_i hC
  have z1 : ¬ (1 : Int32) = 0 := by decide
  have z0 : (0 : Int32) = 0 := rfl
  have hW := sq_cc_W (k := 17) hp hT (by omega)
  have e17 : sq_WW 17 = 10022 := by decide
  rw [e17] at hW
  have hx17 := sq_wx17 hM ht
  rw [F_X6_readCondition_40_b15, sq_pC_40 hC, if_neg (by rw [ix_le (by omega) (by omega)]; omega), F_X12_condition_82_b12, mz_wordx hM ht, ix_b1]
  dsimp only
  rcases cz_goPast (x := 10022) hC (by decide) with ⟨r1, r2, sc1, r3, r4, r5⟩ | ⟨r1, r3⟩
  rotate_left
  · rw [r3, ix_b1, if_neg (fun z => r1 (hW.mpr (hx17.mp z).2))]
    dsimp only
    rw [if_pos z0]
    exact Or.inl ⟨i, k, sc, sm, rfl, rfl, h, Nat.le_refl _, hk, ix_F2.rf, ix_F2.rf, sq_sx_rf⟩
  have r5' : ix_F2 sq_p5 sc sc1 := r5
  have hi := clt r2
  obtain ⟨m1, b1, b2, b3, -, b5, b6, b7⟩ := mz_go (k := k) hM h28
  have hR1 := sq_RL_go h r4 r5' b2 b3 b5 b6
  have g26 : m1.1 82 26 = Int32.ofNat o := (b7.1 82 26 (by rfl)).trans h26
  rw [r3, ix_b1, if_pos (hx17.mpr ⟨h28, hW.mp r1⟩), b1, ix_b1]
  dsimp only
  rw [if_neg z1]
  rcases sim_all hrc hF ho (pd := pd + 1) (u := u + 1) hR1 g26 (by omega) (by omega) with ⟨i', k', sc', sm', a1, a2, a3, a4, a5, a6, a7, a8⟩ | ⟨i', sc', sm', a1, a2, a3, a4, a5⟩
  rotate_left
  · rw [a1, a2, ix_b1, ix_b1]
    dsimp only
    obtain ⟨fM, rfl⟩ : ∃ g, fM = g + 1 := ⟨fM - 1, by omega⟩
    rw [if_pos z0, mz_writesF a3.2.2, ix_b1, mz_condF a3.2.1 a3.2.2]
    exact Or.inr ⟨i', sc', sm', rfl, rfl, a3, (sq_p5C r5').tr a4, b7.tr a5⟩
  have hc' := sq_CP_i a3.1
  obtain ⟨sc2, m2, p1, p2, p3, p4, p5, p6⟩ := sq_push (x := 10022) (y := -22) a3 (by omega) (by decide)
  have g26' : m2.1 82 26 = Int32.ofNat o := (p5.1 82 26 (by rfl)).trans ((a7.1 82 26 (by rfl)).trans g26)
  rw [a1, a2, ix_b1, ix_b1]
  dsimp only
  rw [if_neg z1, p1, p2, ix_b1, ix_b1, ix_addL]
  have hk' := a8.1
  exact sq_OU_seq (((sq_p5C r5').tr a6).tr p4) ((b7.tr a7).tr (sq_pM_le hk' p5)) (sq_sx_tr a8 (sq_sx_bin (Or.inr p6)) (fun q hq => sq_pM_q p5 hq)) (by omega) (ih (l - 1) (by omega) T n c i' (y + 1) fC fM pd (k' + 1) u sc2 m2 (by omega) (by omega) (by omega) p3 g26' (by omega) hu (by omega))
theorem sim_cond {o : Nat} {rcC : Int32 → am_S → Option (Int32 × am_S)} {rcM : am_S → Option am_S} (hrc : o < 3 → sq_CN (o + 1) rcC rcM) (hF : ∀ s, s.1 82 28 = 1 → rcM s = some s) (ho : o ≤ 3) : sq_CN o (F_X6_readCondition_40_o rcC) (F_X12_condition_82_o rcM) := by
  intro T n c pd i k u sc sm h h26 hk hu
  have z1 : ¬ (1 : Int32) = 0 := by decide
  have z0 : (0 : Int32) = 0 := rfl
  rw [F_X6_readCondition_40_o, F_X12_condition_82_o, if_pos h.2.2.1]
  rcases sim_all hrc hF ho (pd := pd) (u := u) h h26 (by omega) (by omega) with ⟨i', k', sc', sm', a1, a2, a3, a4, a5, a6, a7, a8⟩ | ⟨i', sc', sm', a1, a2, a3, a4, a5⟩
  rotate_left
  · rw [a1, a2, ix_b1, ix_b1]
    dsimp only
    rw [if_pos z0, mz_condF a3.2.1 a3.2.2]
    exact Or.inr ⟨i', sc', sm', rfl, rfl, a3, a4, a5⟩
  have hc := sq_CP_i a3.1
  have g26 : sm'.1 82 26 = Int32.ofNat o := (a7.1 82 26 (by rfl)).trans h26
  rw [a1, a2, ix_b1, ix_b1]
  dsimp only
  rw [if_neg z1, a3.1.2.2.2.2.2.2]
  exact sq_OU_seq a6 a7 a8 a4 (sim_condL hrc hF ho (c - i') T n c i' i' 1000 1000 pd k' u sc' sm' (Nat.le_refl _) (by omega) (by omega) a3 g26 a5 hu (Nat.le_refl _))
theorem mz_condFo {f : Nat} {s : am_S} (h28 : s.1 82 28 = 1) : F_X12_condition_82 (f + 1) s = some s := by
  show F_X12_condition_82_o (F_X12_condition_82 f) s = some s
  rw [F_X12_condition_82_o, h28, if_neg (show ¬ (1 : Int32) = 0 by decide)]
theorem sim_C3 : sq_CN 3 (F_X6_readCondition_40 7) (F_X12_condition_82 7) := sim_cond (rcC := F_X6_readCondition_40 6) (rcM := F_X12_condition_82 6) (fun h => absurd h (by omega)) (fun s h => mz_condFo (f := 5) h) (by omega)
theorem sim_C2 : sq_CN 2 (F_X6_readCondition_40 8) (F_X12_condition_82 8) := sim_cond (rcC := F_X6_readCondition_40 7) (rcM := F_X12_condition_82 7) (fun _ => sim_C3) (fun s h => mz_condFo (f := 6) h) (by omega)
theorem sim_C1 : sq_CN 1 (F_X6_readCondition_40 9) (F_X12_condition_82 9) := sim_cond (rcC := F_X6_readCondition_40 8) (rcM := F_X12_condition_82 8) (fun _ => sim_C2) (fun s h => mz_condFo (f := 7) h) (by omega)
theorem sim_C0 : sq_CN 0 (F_X6_readCondition_40 10) (F_X12_condition_82 10) := sim_cond (rcC := F_X6_readCondition_40 9) (rcM := F_X12_condition_82 9) (fun _ => sim_C1) (fun s h => mz_condFo (f := 8) h) (by omega)
