/-! LAYER 2: more of the sea's own calls agree (written by wip/whole/l2/gen44.py) -/
theorem sq_Ok_cnt {m : Nat → Int32} {c : Nat} (ok : sq_Ok m) (h : m 0 = Int32.ofNat c) (hc : c < 6) : sq_Ok (upd m 0 (Int32.ofNat (c + 1))) := by
  obtain ⟨⟨d, d1, d2, d3⟩, ⟨t, e, t1, t2, t3, t4, t5⟩, a5, a6, a8, a24, a54, aR⟩ := ok
  have hd : d = c := by rw [d2, ix_eq (by omega) (by omega)] at h; exact h
  subst hd
  have hj : ∀ j, j ≠ 0 → upd m 0 (Int32.ofNat (d + 1)) j = m j := fun j h => ix_upn h
  refine ⟨⟨d + 1, by omega, ix_ups, fun v hv hc => by rw [hj _ (by omega)]; exact d3 v hv (by omega)⟩, ⟨t, e, t1, t2, t3, by rw [hj _ (by omega)]; exact t4, by rw [hj _ (by omega)]; exact t5⟩, by rw [hj _ (by omega)]; exact a5, by rw [hj _ (by omega)]; exact a6, fun j hj2 => by rw [hj _ (by omega)]; exact a8 j hj2, fun v hv => ?_, fun r hr => ?_, sq_OkR_c (hj _ (by omega)) (fun j hj2 => hj _ (by omega)) aR⟩
  · rw [hj _ (by omega), hj _ (by omega), hj _ (by omega), hj _ (by omega), hj _ (by omega)]; exact a24 v hv
  · rw [hj _ (by omega), hj _ (by omega), hj _ (by omega)]; exact a54 r hr
theorem sq_Ok_te {m m' : Nat → Int32} {t e : Nat} (ok : sq_Ok m) (hj : ∀ j, j ≠ 2 → j ≠ 3 → m' j = m j) (h3 : m' 3 = Int32.ofNat t) (h2 : m' 2 = Int32.ofNat e) (h : t ≤ e) (he : 1 ≤ e) (h16 : e ≤ 16) : sq_Ok m' := by
  obtain ⟨⟨d, d1, d2, d3⟩, -, a5, a6, a8, a24, a54, aR⟩ := ok
  refine ⟨⟨d, d1, by rw [hj _ (by omega) (by omega)]; exact d2, fun v hv hc => by rw [hj _ (by omega) (by omega)]; exact d3 v hv (by omega)⟩, ⟨t, e, h, he, h16, h3, h2⟩, by rw [hj _ (by omega) (by omega)]; exact a5, by rw [hj _ (by omega) (by omega)]; exact a6, fun j hj2 => by rw [hj _ (by omega) (by omega)]; exact a8 j hj2, fun v hv => ?_, fun r hr => ?_, sq_OkR_c (hj _ (by omega) (by omega)) (fun j hj2 => hj _ (by omega) (by omega)) aR⟩
  · rw [hj _ (by omega) (by omega), hj _ (by omega) (by omega), hj _ (by omega) (by omega), hj _ (by omega) (by omega), hj _ (by omega) (by omega)]; exact a24 v hv
  · rw [hj _ (by omega) (by omega), hj _ (by omega) (by omega), hj _ (by omega) (by omega)]; exact a54 r hr
theorem ix_83 {s : am_S} {k j : Nat} {v : Int32} (h : 83 ≠ k) : (am_sI s k j v).1 83 = s.1 83 := ix_sIn h
theorem mz_add {s : am_S} {k p r t : Int32} {c : Nat} (hc : c < 6) (h : s.1 83 0 = Int32.ofNat c) : (F_X12_at (s.1 83 0) 0 s = some (Int32.ofNat (24 + 5 * c), s)) ∧ ∀ u, F_X12_at (s.1 83 0) 1 u = some (Int32.ofNat (24 + 5 * c + 1), u) ∧ F_X12_at (s.1 83 0) 2 u = some (Int32.ofNat (24 + 5 * c + 2), u) ∧ F_X12_at (s.1 83 0) 3 u = some (Int32.ofNat (24 + 5 * c + 3), u) ∧ F_X12_at (s.1 83 0) 4 u = some (Int32.ofNat (24 + 5 * c + 4), u) := by
  rw [h]
  exact ⟨mz_at (w := 0), fun u => ⟨mz_at (w := 1), mz_at (w := 2), mz_at (w := 3), mz_at (w := 4)⟩⟩
theorem ag_voice {k p r t : Int32} : jz_A (F_X11_voice_0 k p r t) (F_X12_voice_82 k p r t) := by
  intro s j
  obtain ⟨ok, R⟩ := j.1
  obtain ⟨hc, h0⟩ := sq_cn_ok ok
  by_cases h1 : (1 : Int32) ≤ k ∧ k ≤ 5
  rotate_left
  · exact jz_A0 (v := -1) j (by simp only [F_X11_voice_0, F_X11_voice_0_b33, F_X11_voice_0_b34, cz_isKind, ix_wi_n h1, ix_b1, ix_10, ix_00, if_true, if_false]) (by simp only [F_X12_voice_82, mz_isKind, ix_wi_n h1, ix_b1, ix_10, ix_00, if_true, if_false])
  by_cases h2 : (0 : Int32) ≤ p ∧ p ≤ 9
  rotate_left
  · exact jz_A0 (v := -1) j (by simp only [F_X11_voice_0, F_X11_voice_0_b33, F_X11_voice_0_b34, cz_isKind, ix_wi_p h1, cz_isPitch, ix_wi_n h2, ix_b1, ix_10, ix_00, if_true, if_false]) (by simp only [F_X12_voice_82, mz_isKind, ix_wi_p h1, mz_isPart1, ix_wi_n h2, ix_b1, ix_10, ix_00, if_true, if_false])
  by_cases h3 : (1 : Int32) ≤ r ∧ r ≤ 9
  rotate_left
  · exact jz_A0 (v := -1) j (by simp only [F_X11_voice_0, F_X11_voice_0_b33, F_X11_voice_0_b34, cz_isKind, ix_wi_p h1, cz_isPitch, ix_wi_p h2, cz_isStrength, ix_wi_n h3, ix_b1, ix_10, ix_00, if_true, if_false]) (by simp only [F_X12_voice_82, mz_isKind, ix_wi_p h1, mz_isPart1, ix_wi_p h2, mz_isPart2, ix_wi_n h3, ix_b1, ix_10, ix_00, if_true, if_false])
  by_cases h4 : (0 : Int32) ≤ t ∧ t ≤ 15
  rotate_left
  · exact jz_A0 (v := -1) j (by simp only [F_X11_voice_0, F_X11_voice_0_b33, F_X11_voice_0_b34, cz_isKind, ix_wi_p h1, cz_isPitch, ix_wi_p h2, cz_isStrength, ix_wi_p h3, cz_isPlace, ix_wi_n h4, ix_b1, ix_10, ix_00, if_true, if_false]) (by simp only [F_X12_voice_82, mz_isKind, ix_wi_p h1, mz_isPart1, ix_wi_p h2, mz_isPart2, ix_wi_p h3, mz_isPart3, ix_wi_n h4, ix_b1, ix_10, ix_00, if_true, if_false])
  have hk : sq_N k 5 := by obtain ⟨z, -, hz, rfl⟩ := ix_rng (a := 1) (b := 5) (by omega) (by omega) h1; exact ⟨z, hz, rfl⟩
  have hp : sq_N p 9 := by obtain ⟨z, -, hz, rfl⟩ := ix_rng (a := 0) (b := 9) (by omega) (by omega) h2; exact ⟨z, hz, rfl⟩
  have hr : sq_N r 9 := by obtain ⟨z, -, hz, rfl⟩ := ix_rng (a := 1) (b := 9) (by omega) (by omega) h3; exact ⟨z, hz, rfl⟩
  have ht : sq_N t 15 := by obtain ⟨z, -, hz, rfl⟩ := ix_rng (a := 0) (b := 15) (by omega) (by omega) h4; exact ⟨z, hz, rfl⟩
  have r5 : s.1 8 5 = Int32.ofNat (sq_cn (s.1 83)) := R.2.2.2.2.2.1.trans h0
  have i0 : ∀ u : am_S, u.1 83 (0 : Int32).toNatClampNeg = u.1 83 0 := fun _ => rfl
  by_cases h6 : sq_cn (s.1 83) < 6
  rotate_left
  · have e6 : sq_cn (s.1 83) = 6 := by omega
    rw [e6] at r5 h0
    refine jz_A0 (v := -2) j ?_ ?_
    · simp only [F_X11_voice_0, F_X11_voice_0_b34, cz_isKind, ix_wi_p h1, cz_isPitch, ix_wi_p h2, cz_isStrength, ix_wi_p h3, cz_isPlace, ix_wi_p h4, ix_b1, ix_10, ix_00, if_true, if_false, F_X8_addVoice_8]
      rw [r5, if_neg (by decide)]
      rfl
    · simp only [F_X12_voice_82, mz_isKind, ix_wi_p h1, mz_isPart1, ix_wi_p h2, mz_isPart2, ix_wi_p h3, mz_isPart3, ix_wi_p h4, ix_b1, ix_10, ix_00, if_true, if_false, i0]
      rw [h0, if_pos ix_k0, if_pos (by decide)]
  generalize sq_cn (s.1 83) = c at hc h0 r5 h6
  -- the class
  obtain ⟨s1, e1⟩ : ∃ s1, s1 = am_sI (am_sI (am_sI (am_sI (am_sI s 10 c k) 11 c p) 12 c r) 13 c t) 8 5 (Int32.ofNat (c + 1)) := ⟨_, rfl⟩
  have h83 : s1.1 83 = s.1 83 := by rw [e1, ix_83 (by decide), ix_83 (by decide), ix_83 (by decide), ix_83 (by decide), ix_83 (by decide)]
  have hx : F_X11_voice_0 k p r t s = some (Int32.ofNat c, s1) := by
    simp only [F_X11_voice_0, F_X11_voice_0_b34, cz_isKind, ix_wi_p h1, cz_isPitch, ix_wi_p h2, cz_isStrength, ix_wi_p h3, cz_isPlace, ix_wi_p h4, ix_b1, ix_10, ix_00, if_true, if_false]
    unfold F_X8_addVoice_8
    have hi : am_in (Int32.ofNat c) 6 := cz_inv h6
    have hn : (Int32.ofNat c).toNatClampNeg = c := ix_nat (by omega)
    have q : ∀ (u : am_S) (a b : Nat) (y : Int32), a ≠ 8 → (am_sI u a b y).1 8 5 = u.1 8 5 := fun u a b y h => by rw [ix_sIn (by omega)]
    rw [r5, if_pos (by rw [ix_ltL (by omega) (by omega)]; omega), if_pos hi, hn, ix_b1, q _ _ _ _ (by decide), r5, if_pos hi, hn, ix_b1, q _ _ _ _ (by decide), q _ _ _ _ (by decide), r5, if_pos hi, hn, ix_b1, q _ _ _ _ (by decide), q _ _ _ _ (by decide), q _ _ _ _ (by decide), r5, if_pos hi, hn, ix_b1, q _ _ _ _ (by decide), q _ _ _ _ (by decide), q _ _ _ _ (by decide), q _ _ _ _ (by decide), r5, ix_addL, ix_b1, ix_sIs]
    have e2 : Int32.ofNat (c + 1) - 1 = Int32.ofNat c := ix_sub (c + 1) 1 (by omega)
    rw [e2, e1]
    rfl
  -- the model
  obtain ⟨s2, e2⟩ : ∃ s2, s2 = am_sI (am_sI (am_sI (am_sI (am_sI (am_sI s1 83 (24 + 5 * c) k) 83 (24 + 5 * c + 1) p) 83 (24 + 5 * c + 2) r) 83 (24 + 5 * c + 3) t) 83 (24 + 5 * c + 4) 0) 83 0 (Int32.ofNat (c + 1)) := ⟨_, rfl⟩
  have h01 : s1.1 83 0 = Int32.ofNat c := by rw [h83]; exact h0
  have hy : F_X12_voice_82 k p r t s1 = some (Int32.ofNat c, s2) := by
    simp only [F_X12_voice_82, mz_isKind, ix_wi_p h1, mz_isPart1, ix_wi_p h2, mz_isPart2, ix_wi_p h3, mz_isPart3, ix_wi_p h4, ix_b1, ix_10, ix_00, if_true, if_false, i0]
    obtain ⟨q0, q1⟩ := mz_add (k := k) (p := p) (r := r) (t := t) h6 h01
    have ii : ∀ w, w < 296 → am_in (Int32.ofNat w) 296 := fun w hw => (ix_in (by omega)).mpr hw
    have nn : ∀ w, w < 296 → (Int32.ofNat w).toNatClampNeg = w := fun w hw => ix_nat (by omega)
    rw [if_pos ix_k0, if_neg (by rw [h01, ix_eqL (by omega) (by omega)]; omega), if_pos ix_k0, q0]
    simp only [ix_b1, ix_10, ix_00, if_true, if_false, (q1 _).1, (q1 _).2.1, (q1 _).2.2.1, (q1 _).2.2.2, if_pos (ii _ (show 24 + 5 * c < 296 by omega)), nn _ (show 24 + 5 * c < 296 by omega), if_pos (ii _ (show 24 + 5 * c + 1 < 296 by omega)), nn _ (show 24 + 5 * c + 1 < 296 by omega), if_pos (ii _ (show 24 + 5 * c + 2 < 296 by omega)), nn _ (show 24 + 5 * c + 2 < 296 by omega), if_pos (ii _ (show 24 + 5 * c + 3 < 296 by omega)), nn _ (show 24 + 5 * c + 3 < 296 by omega), if_pos (ii _ (show 24 + 5 * c + 4 < 296 by omega)), nn _ (show 24 + 5 * c + 4 < 296 by omega), if_pos ix_k0, show (0 : Int32).toNatClampNeg = 0 from rfl]
    rw [ix_sIj (by omega), ix_sIj (by omega), ix_sIj (by omega), ix_sIj (by omega), ix_sIj (by omega), h01, ix_addL, e2]
  -- the row
  have o1 := sq_Ok_up (a := 24 + 5 * c) (x := k) ok (by omega) (fun h => by omega) (fun h => by omega) (fun _ _ => by omega) (fun u hu => ⟨fun h => hk, fun h => by omega, fun h => by omega, fun h => by omega, by omega⟩) (fun h => by omega)
  have o2 := sq_Ok_up (a := 24 + 5 * c + 1) (x := p) o1 (by omega) (fun h => by omega) (fun h => by omega) (fun _ _ => by omega) (fun u hu => ⟨fun h => by omega, fun h => hp, fun h => by omega, fun h => by omega, by omega⟩) (fun h => by omega)
  have o3 := sq_Ok_up (a := 24 + 5 * c + 2) (x := r) o2 (by omega) (fun h => by omega) (fun h => by omega) (fun _ _ => by omega) (fun u hu => ⟨fun h => by omega, fun h => by omega, fun h => hr, fun h => by omega, by omega⟩) (fun h => by omega)
  have o4 := sq_Ok_up (a := 24 + 5 * c + 3) (x := t) o3 (by omega) (fun h => by omega) (fun h => by omega) (fun _ _ => by omega) (fun u hu => ⟨fun h => by omega, fun h => by omega, fun h => by omega, fun h => ht, by omega⟩) (fun h => by omega)
  have z4 : upd (upd (upd (upd (s.1 83) (24 + 5 * c) k) (24 + 5 * c + 1) p) (24 + 5 * c + 2) r) (24 + 5 * c + 3) t (24 + 5 * c + 4) = 0 := by
    rw [ix_upn (by omega), ix_upn (by omega), ix_upn (by omega), ix_upn (by omega)]
    obtain ⟨d, d1, d2, d3⟩ := ok.1
    have hd : d = c := by rw [h0, ix_eq (by omega) (by omega)] at d2; exact d2.symm
    exact d3 c h6 (by omega)
  have o5 := sq_Ok_cnt o4 (c := c) (by rw [ix_upn (by omega), ix_upn (by omega), ix_upn (by omega), ix_upn (by omega)]; exact h0) h6
  have g1 := sq_R_up (k := 10) (i := c) (a := 24 + 5 * c) (y := k) R (by unfold sq_mp; omega)
  have g2 := sq_R_up (k := 11) (i := c) (a := 24 + 5 * c + 1) (y := p) g1 (by unfold sq_mp; omega)
  have g3 := sq_R_up (k := 12) (i := c) (a := 24 + 5 * c + 2) (y := r) g2 (by unfold sq_mp; omega)
  have g4 := sq_R_up (k := 13) (i := c) (a := 24 + 5 * c + 3) (y := t) g3 (by unfold sq_mp; omega)
  have g5 := sq_R_up (k := 8) (i := 5) (a := 0) (y := Int32.ofNat (c + 1)) g4 (by unfold sq_mp; omega)
  rw [← e1] at g5
  refine ⟨_, s1, s2, hx, hy, jz_fin j g5 ?_ ?_ ?_ ?_ o5⟩
  · rw [e1]; exact ((((ix_F2.I (by rfl)).tr (ix_F2.I (by rfl))).tr (ix_F2.I (by rfl))).tr (ix_F2.I (by rfl))).tr (ix_F2.I (by rfl))
  · rw [e2]; exact (((((ix_F2.I (by rfl)).tr (ix_F2.I (by rfl))).tr (ix_F2.I (by rfl))).tr (ix_F2.I (by rfl))).tr (ix_F2.I (by rfl))).tr (ix_F2.I (by rfl))
  · intro q hq1 hq2
    rw [e2, ix_sIn (by omega), ix_sIn (by omega), ix_sIn (by omega), ix_sIn (by omega), ix_sIn (by omega), ix_sIn (by omega)]
  · rw [e2, ix_sIf, ix_sIf, ix_sIf, ix_sIf, ix_sIf, ix_sIf, h83]
    congr 1
    conv => lhs; rw [← z4]
    exact ix_upself
theorem mz_in015 {x : Int32} {s : am_S} : F_X12_in x.toInt64 0 15 s = some (ix_wi x 0 15, s) := ix_mwl (by decide) (by decide)
theorem ag_report {a b d : Int32} : jz_A (F_X11_report_0 a b d) (F_X12_report_82 a b d) := by
  intro s j
  obtain ⟨ok, R⟩ := j.1
  by_cases h1 : (0 : Int32) ≤ a ∧ a ≤ 15
  rotate_left
  · exact jz_A0 (v := -1) j (by simp only [F_X11_report_0, F_X11_report_0_b33, F_X11_report_0_b34, ix_cw, ix_wi_n h1, ix_b1, ix_10, ix_00, if_true, if_false]) (by simp only [F_X12_report_82, mz_isTurn, ix_wi_n h1, ix_b1, ix_10, ix_00, if_true, if_false])
  by_cases h2 : (0 : Int32) ≤ b ∧ b ≤ 15
  rotate_left
  · exact jz_A0 (v := -1) j (by simp only [F_X11_report_0, F_X11_report_0_b33, F_X11_report_0_b34, ix_cw, ix_wi_p h1, cz_isPlace, ix_wi_n h2, ix_b1, ix_10, ix_00, if_true, if_false]) (by simp only [F_X12_report_82, mz_isTurn, ix_wi_p h1, mz_in015, ix_wi_n h2, ix_b1, ix_10, ix_00, if_true, if_false])
  have hml : F_X12_in d.toInt64 b.toInt64 15 s = some (ix_wi d b 15, s) := ix_mw (hi := 15)
  by_cases h3 : b ≤ d ∧ d ≤ 15
  rotate_left
  · refine jz_A0 (v := -1) j ?_ (by simp only [F_X12_report_82, mz_isTurn, ix_wi_p h1, mz_in015, ix_wi_p h2, hml, ix_wi_n h3, ix_b1, ix_10, ix_00, if_true, if_false])
    simp only [F_X11_report_0, F_X11_report_0_b33, F_X11_report_0_b34, ix_cw, ix_wi_p h1, cz_isPlace, ix_wi_p h2, ix_b1, ix_10, ix_00, if_true, if_false]
    by_cases h4 : (0 : Int32) ≤ d ∧ d ≤ 15
    · have h5 : d < b := by
        have h6 : ¬ b ≤ d := fun z => h3 ⟨z, h4.2⟩
        rw [ix_le'] at h6; rw [ix_lt']; omega
      simp only [ix_wi_p h4, ix_b1, ix_10, ix_00, if_true, if_false, if_pos h5]
    · simp only [ix_wi_n h4, ix_b1, ix_10, ix_00, if_true, if_false]
  have h4 : (0 : Int32) ≤ d ∧ d ≤ 15 := by
    refine ⟨?_, h3.2⟩
    have g1 := h2.1; have g2 := h3.1
    rw [ix_le'] at g1 g2 ⊢; omega
  have h5 : ¬ d < b := by have g2 := h3.1; rw [ix_le'] at g2; rw [ix_lt']; omega
  have ha : sq_N a 15 := by obtain ⟨z, -, hz, rfl⟩ := ix_rng (a := 0) (b := 15) (by omega) (by omega) h1; exact ⟨z, hz, rfl⟩
  have hb : sq_N b 15 := by obtain ⟨z, -, hz, rfl⟩ := ix_rng (a := 0) (b := 15) (by omega) (by omega) h2; exact ⟨z, hz, rfl⟩
  have hd : sq_N d 15 := by obtain ⟨z, -, hz, rfl⟩ := ix_rng (a := 0) (b := 15) (by omega) (by omega) h4; exact ⟨z, hz, rfl⟩
  obtain ⟨c, hc, h6⟩ := ok.2.2.2.1
  have r7 : s.1 8 7 = Int32.ofNat c := R.2.2.2.2.2.2.2.1.trans h6
  have i6 : ∀ u : am_S, u.1 83 (6 : Int32).toNatClampNeg = u.1 83 6 := fun _ => rfl
  by_cases hc6 : c < 6
  rotate_left
  · have e6 : c = 6 := by omega
    subst e6
    refine jz_A0 (v := -2) j ?_ ?_
    · simp only [F_X11_report_0, F_X11_report_0_b34, ix_cw, ix_wi_p h1, cz_isPlace, ix_wi_p h2, ix_wi_p h4, if_neg h5, ix_b1, ix_10, ix_00, if_true, if_false, F_X8_addReport_8]
      rw [r7, if_neg (by decide)]
      rfl
    · simp only [F_X12_report_82, mz_isTurn, ix_wi_p h1, mz_in015, ix_wi_p h2, hml, ix_wi_p h3, ix_b1, ix_10, ix_00, if_true, if_false, i6]
      rw [h6, if_pos ix_k6, if_pos (by decide)]
  obtain ⟨s1, e1⟩ : ∃ s1, s1 = am_sI (am_sI (am_sI (am_sI s 14 c a) 15 c b) 16 c d) 8 7 (Int32.ofNat (c + 1)) := ⟨_, rfl⟩
  have h83 : s1.1 83 = s.1 83 := by rw [e1, ix_83 (by decide), ix_83 (by decide), ix_83 (by decide), ix_83 (by decide)]
  have ec1 : Int32.ofNat (c + 1) - 1 = Int32.ofNat c := ix_sub (c + 1) 1 (by omega)
  have hx : F_X11_report_0 a b d s = some (Int32.ofNat c, s1) := by
    simp only [F_X11_report_0, F_X11_report_0_b34, ix_cw, ix_wi_p h1, cz_isPlace, ix_wi_p h2, ix_wi_p h4, if_neg h5, ix_b1, ix_10, ix_00, if_true, if_false]
    unfold F_X8_addReport_8
    have hi : am_in (Int32.ofNat c) 6 := cz_inv hc6
    have hn : (Int32.ofNat c).toNatClampNeg = c := ix_nat (by omega)
    have q : ∀ (u : am_S) (a b : Nat) (y : Int32), a ≠ 8 → (am_sI u a b y).1 8 7 = u.1 8 7 := fun u a b y h => by rw [ix_sIn (by omega)]
    rw [r7, if_pos (by rw [ix_ltL (by omega) (by omega)]; omega), if_pos hi, hn, ix_b1, q _ _ _ _ (by decide), r7, if_pos hi, hn, ix_b1, q _ _ _ _ (by decide), q _ _ _ _ (by decide), r7, if_pos hi, hn, ix_b1, q _ _ _ _ (by decide), q _ _ _ _ (by decide), q _ _ _ _ (by decide), r7, ix_addL, ix_b1, ix_sIs, ec1, e1]
    rfl
  obtain ⟨s2, e2⟩ : ∃ s2, s2 = am_sI (am_sI (am_sI (am_sI s1 83 (54 + 3 * c) a) 83 (54 + 3 * c + 1) b) 83 (54 + 3 * c + 2) d) 83 6 (Int32.ofNat (c + 1)) := ⟨_, rfl⟩
  have h61 : s1.1 83 6 = Int32.ofNat c := by rw [h83]; exact h6
  have hml1 : F_X12_in d.toInt64 b.toInt64 15 s1 = some (ix_wi d b 15, s1) := ix_mw (hi := 15)
  have hy : F_X12_report_82 a b d s1 = some (Int32.ofNat c, s2) := by
    simp only [F_X12_report_82, mz_isTurn, ix_wi_p h1, mz_in015, ix_wi_p h2, hml1, ix_wi_p h3, ix_b1, ix_10, ix_00, if_true, if_false, i6]
    have ii : ∀ w, w < 296 → am_in (Int32.ofNat w) 296 := fun w hw => (ix_in (by omega)).mpr hw
    have nn : ∀ w, w < 296 → (Int32.ofNat w).toNatClampNeg = w := fun w hw => ix_nat (by omega)
    rw [h61, if_pos ix_k6, if_neg (by rw [ix_eqL (by omega) (by omega)]; omega), if_pos ix_k6, ix_Lmul, ix_Ladd]
    have g1 : Int32.ofNat (54 + 3 * c) + 1 = Int32.ofNat (54 + 3 * c + 1) := ix_add _ 1
    have g2 : Int32.ofNat (54 + 3 * c) + 2 = Int32.ofNat (54 + 3 * c + 2) := ix_add _ 2
    simp only [ix_b1, ix_10, ix_00, if_true, if_false, g1, g2, if_pos (ii _ (show 54 + 3 * c < 296 by omega)), nn _ (show 54 + 3 * c < 296 by omega), if_pos (ii _ (show 54 + 3 * c + 1 < 296 by omega)), nn _ (show 54 + 3 * c + 1 < 296 by omega), if_pos (ii _ (show 54 + 3 * c + 2 < 296 by omega)), nn _ (show 54 + 3 * c + 2 < 296 by omega), if_pos ix_k6, show (6 : Int32).toNatClampNeg = 6 from rfl]
    rw [ix_sIs, ix_sIj (by omega), ix_sIj (by omega), ix_sIj (by omega), h61, ix_addL, ec1, e2]
  have o1 := sq_Ok_up (a := 54 + 3 * c) (x := a) ok (by omega) (fun h => by omega) (fun h => by omega) (fun _ _ => by omega) (fun u hu => ⟨fun h => by omega, fun h => by omega, fun h => by omega, fun h => by omega, by omega⟩) (fun h => ha)
  have o2 := sq_Ok_up (a := 54 + 3 * c + 1) (x := b) o1 (by omega) (fun h => by omega) (fun h => by omega) (fun _ _ => by omega) (fun u hu => ⟨fun h => by omega, fun h => by omega, fun h => by omega, fun h => by omega, by omega⟩) (fun h => hb)
  have o3 := sq_Ok_up (a := 54 + 3 * c + 2) (x := d) o2 (by omega) (fun h => by omega) (fun h => by omega) (fun _ _ => by omega) (fun u hu => ⟨fun h => by omega, fun h => by omega, fun h => by omega, fun h => by omega, by omega⟩) (fun h => hd)
  have o4 := sq_Ok_up (a := 6) (x := Int32.ofNat (c + 1)) o3 (by omega) (fun h => by omega) (fun h => ⟨c + 1, by omega, rfl⟩) (fun _ _ => by omega) (fun u hu => ⟨fun h => by omega, fun h => by omega, fun h => by omega, fun h => by omega, by omega⟩) (fun h => by omega)
  have g1 := sq_R_up (k := 14) (i := c) (a := 54 + 3 * c) (y := a) R (by unfold sq_mp; omega)
  have g2 := sq_R_up (k := 15) (i := c) (a := 54 + 3 * c + 1) (y := b) g1 (by unfold sq_mp; omega)
  have g3 := sq_R_up (k := 16) (i := c) (a := 54 + 3 * c + 2) (y := d) g2 (by unfold sq_mp; omega)
  have g4 := sq_R_up (k := 8) (i := 7) (a := 6) (y := Int32.ofNat (c + 1)) g3 (by unfold sq_mp; omega)
  rw [← e1] at g4
  refine ⟨_, s1, s2, hx, hy, jz_fin j g4 ?_ ?_ ?_ ?_ o4⟩
  · rw [e1]; exact (((ix_F2.I (by rfl)).tr (ix_F2.I (by rfl))).tr (ix_F2.I (by rfl))).tr (ix_F2.I (by rfl))
  · rw [e2]; exact (((ix_F2.I (by rfl)).tr (ix_F2.I (by rfl))).tr (ix_F2.I (by rfl))).tr (ix_F2.I (by rfl))
  · intro q hq1 hq2
    rw [e2, ix_sIn (by omega), ix_sIn (by omega), ix_sIn (by omega), ix_sIn (by omega)]
  · rw [e2, ix_sIf, ix_sIf, ix_sIf, ix_sIf, h83]
