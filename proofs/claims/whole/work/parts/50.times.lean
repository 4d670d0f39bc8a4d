/-! LAYER 2: times agrees (written by wip/whole/l2/gen50.py) -/
def sq_lw : Nat → (Nat → Int32) → Int32 → (Nat → Int32) × Int32
  | 0, m, w => (m, w)
  | l + 1, m, w => if m 3 < m 2 then sq_lw l (sq_lg m).1 (w + (sq_lg m).2) else (m, w)
theorem sq_lw_ok : ∀ (l : Nat) (m : Nat → Int32) (w : Int32), sq_Ok m → sq_Ok (sq_lw l m w).1 ∧ ∀ j, ¬ sq_ch j → j ≠ 7 → (sq_lw l m w).1 j = m j := by
  intro l
  induction l with
  | zero => intro m w ok; exact ⟨ok, fun _ _ _ => rfl⟩
  | succ l ih =>
    intro m w ok
    rw [sq_lw]
    split
    · rename_i h
      obtain ⟨g1, g2, -⟩ := sq_lg_ok ok h
      obtain ⟨i1, i2⟩ := ih _ (w + (sq_lg m).2) g1
      exact ⟨i1, fun j hj h7 => (i2 j hj h7).trans (g2 j hj h7)⟩
    · exact ⟨ok, fun _ _ _ => rfl⟩
def sq_tl (m : Nat → Int32) (v : Int32) : Nat → Int32 → Int32 → Int32
  | 0, _, c => c
  | l + 1, z, c => sq_tl m v l ((sq_lw 16 (upd m 7 z) 0).1 7) (if (sq_lw 16 (upd m 7 z) 0).2 < v then c else c + 1)
theorem cz_lwL : ∀ (l i f : Nat) (s : am_S) (m : Nat → Int32) (w : Int32), sq_R s.1 8 m → sq_Ok m → i + l = 16 → l < f → ∃ s', F_X3_worthByLot_50_b4 f w (Int32.ofNat i) s = some ((sq_lw l m w).2, s') ∧ sq_R s'.1 8 (sq_lw l m w).1 ∧ ix_Fr (fun q => q == 8 || q == 13 || q == 23) s s' := by
  intro l
  induction l with
  | zero =>
    intro i f s m w R ok hl hf
    obtain ⟨f, rfl⟩ : ∃ g, f = g + 1 := ⟨f - 1, by omega⟩
    refine ⟨s, ?_, R, ix_Fr.rf⟩
    rw [F_X3_worthByLot_50_b4, if_pos (by rw [ix_Lle (by omega) (by omega)]; omega)]
    rfl
  | succ l ih =>
    intro i f s m w R ok hl hf
    obtain ⟨f, rfl⟩ : ∃ g, f = g + 1 := ⟨f - 1, by omega⟩
    rw [F_X3_worthByLot_50_b4, if_neg (by rw [ix_Lle (by omega) (by omega)]; omega), cz_over R ok, ix_b1, sq_lw]
    dsimp only
    by_cases h : m 3 < m 2
    · obtain ⟨s0, s1, d1, g1, g2, g3⟩ := cz_lg R ok h
      rw [if_pos h, if_pos rfl, d1, ix_b1, if_pos h]
      dsimp only
      rw [g1, ix_b1, ix_addL]
      obtain ⟨s', i1, i2, i3⟩ := ih (i + 1) f s1 _ (w + (sq_lg m).2) g2 (sq_lg_ok ok h).1 (by omega) (by omega)
      exact ⟨s', i1, i2, g3.tr i3⟩
    · rw [if_neg h, if_neg (by decide), if_neg h]
      exact ⟨s, rfl, R, ix_Fr.rf⟩
theorem cz_timesL {n : Nat} {v : Int32} {m0 : Nat → Int32} (hn : n ≤ 40) (ok : sq_Ok m0) : ∀ (l i f : Nat) (s : am_S) (z c : Int32), sq_R s.1 8 (upd m0 7 z) → sq_mo (s.1 51) m0 → i + l = n → l < f → ∃ s', F_X3_timesWorth_50_b18 f (Int32.ofNat n) v (m0 7) c (Int32.ofNat i) s = some (sq_tl m0 v l z c, s') ∧ sq_R s'.1 8 m0 ∧ ix_Fr sq_pC s s' := by
  have okz : ∀ z, sq_Ok (upd m0 7 z) := fun z => sq_Ok_up ok (by omega) (fun h => by omega) (fun h => by omega) (fun _ _ => by omega) (fun u hu => ⟨fun h => by omega, fun h => by omega, fun h => by omega, fun h => by omega, by omega⟩) (fun h => by omega)
  intro l
  induction l with
  | zero =>
    intro i f s z c R hmo hl hf
    obtain ⟨f, rfl⟩ : ∃ g, f = g + 1 := ⟨f - 1, by omega⟩
    have R1 := sq_R_up (k := 8) (i := 4) (a := 7) (y := m0 7) R (by unfold sq_mp; omega)
    rw [ix_upret] at R1
    refine ⟨am_sI s 8 4 (m0 7), ?_, R1, ix_Fr.I (by rfl)⟩
    rw [F_X3_timesWorth_50_b18, if_pos (by rw [ix_le (by omega) (by omega)]; omega), ix_b1]
    rfl
  | succ l ih =>
    intro i f s z c R hmo hl hf
    obtain ⟨f, rfl⟩ : ∃ g, f = g + 1 := ⟨f - 1, by omega⟩
    obtain ⟨s1, a1, a2, a3⟩ := cz_lwL 16 0 1000 s (upd m0 7 z) 0 R (okz z) (by omega) (by omega)
    obtain ⟨k1, k2⟩ := sq_lw_ok 16 (upd m0 7 z) 0 (okz z)
    have hmo2 : sq_mo (s1.1 51) (upd m0 7 ((sq_lw 16 (upd m0 7 z) 0).1 7)) := by
      rw [a3.1 51 rfl]
      obtain ⟨q0, q1, q2, q3⟩ := hmo
      refine ⟨by rw [ix_upn (by omega)]; exact q0, by rw [ix_upn (by omega)]; exact q1, ?_, fun u hu => by rw [ix_upn (by omega)]; exact q3 u hu⟩
      rw [sq_cs_c (m := m0) (fun u hu => ix_upn (by omega))]; exact q2
    obtain ⟨s2, b1, b2, b3⟩ := cz_goBack a2 (m := upd m0 7 ((sq_lw 16 (upd m0 7 z) 0).1 7)) (fun q hq => by
      by_cases h7 : q = 7
      · subst h7; rw [ix_ups]
      · rw [k2 q hq h7, ix_upn h7, ix_upn h7]) hmo2
    have hF : ∀ c2 : Int32, F_X3_timesWorth_50_b35 (F_X3_timesWorth_50_b18 f) (Int32.ofNat n) v (m0 7) c2 (Int32.ofNat i) s1 = F_X3_timesWorth_50_b18 f (Int32.ofNat n) v (m0 7) c2 (Int32.ofNat (i + 1)) s2 := by
      intro c2
      rw [F_X3_timesWorth_50_b35, b1, ix_b1, ix_addL]
    have a1' : F_X3_worthByLot_50 s = some ((sq_lw 16 (upd m0 7 z) 0).2, s1) := a1
    rw [F_X3_timesWorth_50_b18, if_neg (by rw [ix_le (by omega) (by omega)]; omega), a1', ix_b1, sq_tl]
    dsimp only
    rw [hF, hF]
    have hmo3 : sq_mo (s2.1 51) m0 := by rw [b3.1 51 rfl, a3.1 51 rfl]; exact hmo
    have f1 : ix_Fr sq_pC s s2 := (a3.wd (fun k hk => by unfold sq_pC at hk; simp at hk ⊢; omega)).tr (b3.wd (fun k hk => by unfold sq_pC at hk; simp at hk ⊢; omega))
    split
    · obtain ⟨s', i1, i2, i3⟩ := ih (i + 1) f s2 _ c b2 hmo3 (by omega) (by omega)
      exact ⟨s', i1, i2, f1.tr i3⟩
    · obtain ⟨s', i1, i2, i3⟩ := ih (i + 1) f s2 _ (c + 1) b2 hmo3 (by omega) (by omega)
      exact ⟨s', i1, i2, f1.tr i3⟩
theorem mz_lwL {k35 : Int32 → Int32 → Int32 → Int32 → am_S → Option (Int32 × am_S)} {x1 v x3 x4 : Int32} : ∀ (l f : Nat) (s : am_S) (w : Int32), sq_Ok (s.1 83) → 16 ≤ l + sq_tn (s.1 83) → l < f → ∃ s', F_X12_times_82_b44 k35 f x1 v x3 x4 w s = (if (sq_lw l (s.1 83) w).2 < v then F_X12_times_82_b75 k35 x1 v x4 (sq_lw l (s.1 83) w).2 0 x3 s' else F_X12_times_82_b75 k35 x1 v x4 (sq_lw l (s.1 83) w).2 1 x3 s') ∧ s'.1 83 = (sq_lw l (s.1 83) w).1 ∧ ix_Fr (fun q => q == 83 || q == 86) s s' := by
  intro l
  induction l with
  | zero =>
    intro f s w ok hl hf
    obtain ⟨f, rfl⟩ : ∃ g, f = g + 1 := ⟨f - 1, by omega⟩
    have h : ¬ s.1 83 3 < s.1 83 2 := fun z => by have := sq_lt16 ok z; omega
    refine ⟨s, ?_, rfl, ix_Fr.rf⟩
    rw [F_X12_times_82_b44, mz_over, if_neg h, ix_b1, if_neg (show ¬ (1 : Int32) = 0 by decide)]
    rfl
  | succ l ih =>
    intro f s w ok hl hf
    obtain ⟨f, rfl⟩ : ∃ g, f = g + 1 := ⟨f - 1, by omega⟩
    rw [F_X12_times_82_b44, mz_over, sq_lw]
    by_cases h : s.1 83 3 < s.1 83 2
    · obtain ⟨s1, g1, g2, g3⟩ := mz_lg ok h
      obtain ⟨k1, k2, k7, k3, -⟩ := sq_lg_ok ok h
      have hE := sq_lt16 ok h
      have ht1 : sq_tn (s1.1 83) = sq_tn (s.1 83) + 1 := by
        have e := (sq_tn_ok ok).2
        rw [g2]; unfold sq_tn at e ⊢; unfold sq_tn at hE
        rw [k3, e, ix_addL, ix_nat (by omega), ix_nat (by omega)]
      rw [if_pos h, ix_b1, if_pos rfl, if_pos h]
      dsimp only
      rw [g1, ix_b1]
      obtain ⟨s', i1, i2, i3⟩ := ih f s1 (w + (sq_lg (s.1 83)).2) (by rw [g2]; exact k1) (by rw [ht1]; omega) (by omega)
      rw [g2] at i1 i2
      exact ⟨s', i1, i2, g3.tr i3⟩
    · rw [if_neg h, ix_b1, if_neg (show ¬ (1 : Int32) = 0 by decide), if_neg h]
      exact ⟨s, rfl, rfl, ix_Fr.rf⟩
theorem mz_timesL {n : Nat} {v : Int32} {m0 : Nat → Int32} (hn : n ≤ 40) (ok : sq_Ok m0) : ∀ (l i f : Nat) (s : am_S) (z c : Int32), s.1 83 = upd m0 7 z → (∀ q, q < 296 → s.1 85 q = m0 q) → i + l = n → l < f → ∃ s', F_X12_times_82_b35 f (Int32.ofNat n) v c (Int32.ofNat i) s = some (sq_tl m0 v l z c, s') ∧ s'.1 83 = m0 ∧ ix_Fr sq_pM s s' := by
  have okz : ∀ z, sq_Ok (upd m0 7 z) := fun z => sq_Ok_up ok (by omega) (fun h => by omega) (fun h => by omega) (fun _ _ => by omega) (fun u hu => ⟨fun h => by omega, fun h => by omega, fun h => by omega, fun h => by omega, by omega⟩) (fun h => by omega)
  intro l
  induction l with
  | zero =>
    intro i f s z c hs h85 hl hf
    obtain ⟨f, rfl⟩ : ∃ g, f = g + 1 := ⟨f - 1, by omega⟩
    obtain ⟨s', b1, b2, b3⟩ := mz_back (s := s) (m := m0) h85 (fun q hq => by rw [hs, ix_upn (by omega)])
    refine ⟨s', ?_, b2, b3.wd (fun k hk => by unfold sq_pM at hk; simp at hk ⊢; omega)⟩
    rw [F_X12_times_82_b35, if_pos (by rw [ix_le (by omega) (by omega)]; omega), b1, ix_b1]
    rfl
  | succ l ih =>
    intro i f s z c hs h85 hl hf
    obtain ⟨f, rfl⟩ : ∃ g, f = g + 1 := ⟨f - 1, by omega⟩
    obtain ⟨s1, a1, a2, a3⟩ := mz_lwL (k35 := F_X12_times_82_b35 f) (x1 := Int32.ofNat n) (v := v) (x3 := c) (x4 := Int32.ofNat i) 16 1000 s 0 (by rw [hs]; exact okz z) (by omega) (by omega)
    rw [hs] at a1 a2
    obtain ⟨k1, k2⟩ := sq_lw_ok 16 (upd m0 7 z) 0 (okz z)
    obtain ⟨s2, b1, b2, b3⟩ := mz_back (s := s1) (m := m0) (fun q hq => by rw [a3.1 85 rfl]; exact h85 q hq) (fun q hq => by rw [a2, k2 q (by unfold sq_ch; omega) (by omega), ix_upn (by omega)])
    have i7 : ∀ t : am_S, t.1 83 (7 : Int32).toNatClampNeg = t.1 83 7 := fun _ => rfl
    have n7 : (7 : Int32).toNatClampNeg = 7 := rfl
    obtain ⟨s3, e3⟩ : ∃ s3, s3 = am_sI s2 83 7 ((sq_lw 16 (upd m0 7 z) 0).1 7) := ⟨_, rfl⟩
    have hF : ∀ (w y0 : Int32), F_X12_times_82_b75 (F_X12_times_82_b35 f) (Int32.ofNat n) v (Int32.ofNat i) w y0 c s1 = F_X12_times_82_b35 f (Int32.ofNat n) v (c + y0) (Int32.ofNat (i + 1)) s3 := by
      intro w y0
      rw [F_X12_times_82_b75, if_pos ix_k7, b1, ix_b1, if_pos ix_k7]
      simp only [i7, n7]
      rw [ix_b1, a2, ← e3, ix_addL]
    rw [F_X12_times_82_b35, if_neg (by rw [ix_le (by omega) (by omega)]; omega), a1, hF, hF, Int32.add_zero, sq_tl]
    have h83 : s3.1 83 = upd m0 7 ((sq_lw 16 (upd m0 7 z) 0).1 7) := by rw [e3, ix_sIf, b2]
    have f1 : ix_Fr sq_pM s s3 := ((a3.wd (fun k hk => by unfold sq_pM at hk; simp at hk ⊢; omega)).tr (b3.wd (fun k hk => by unfold sq_pM at hk; simp at hk ⊢; omega))).tr (by rw [e3]; exact ix_Fr.I (by rfl))
    have h85' : ∀ q, q < 296 → s3.1 85 q = m0 q := fun q hq => by rw [e3, ix_sIn (by decide), b3.1 85 rfl, a3.1 85 rfl]; exact h85 q hq
    split
    · obtain ⟨s', i1, i2, i3⟩ := ih (i + 1) f s3 _ c h83 h85' (by omega) (by omega)
      exact ⟨s', i1, i2, f1.tr i3⟩
    · obtain ⟨s', i1, i2, i3⟩ := ih (i + 1) f s3 _ (c + 1) h83 h85' (by omega) (by omega)
      exact ⟨s', i1, i2, f1.tr i3⟩
theorem ag_times {a v : Int32} : jz_A (F_X11_times_0 a v) (F_X12_times_82 a v) := by
  intro s j
  obtain ⟨ok, R⟩ := j.1
  by_cases h1 : (1 : Int32) ≤ a ∧ a ≤ 40
  rotate_left
  · exact jz_A0 (v := -1) j (by simp only [F_X11_times_0, ix_cw, ix_wi_n h1, ix_b1, ix_10, ix_00, if_true, if_false]) (by simp only [F_X12_times_82, mz_in1x40, ix_wi_n h1, ix_b1, ix_10, ix_00, if_true, if_false])
  by_cases h2 : (0 : Int32) ≤ v ∧ v ≤ 999
  rotate_left
  · exact jz_A0 (v := -1) j (by simp only [F_X11_times_0, ix_cw, ix_wi_p h1, ix_wi_n h2, ix_b1, ix_10, ix_00, if_true, if_false]) (by simp only [F_X12_times_82, mz_in1x40, ix_wi_p h1, mz_in0x999, ix_wi_n h2, ix_b1, ix_10, ix_00, if_true, if_false])
  obtain ⟨n, -, hn, rfl⟩ := ix_rng (a := 1) (b := 40) (by omega) (by omega) h1
  obtain ⟨s0, r1, r2, r3⟩ := cz_rem R
  have R1 : sq_R s0.1 8 (upd (s.1 83) 7 (s.1 83 7)) := by rw [ix_upself]; exact sq_R_fr (fun k h1 h2 => r3.1 k (by simp; omega)) R
  obtain ⟨s1, c1, c2, c3⟩ := cz_timesL (v := v) hn ok n 0 1000 s0 _ 0 R1 r2 (by omega) (by omega)
  have f1 : ix_Fr sq_pC s s1 := (r3.wd (fun k hk => by unfold sq_pC at hk; simp at hk ⊢; omega)).tr c3
  have h83 : s1.1 83 = s.1 83 := sq_pC8 f1 83 (by omega)
  obtain ⟨s2, p1, p2, p3⟩ := mz_puts s1
  obtain ⟨s3, d1, d2, d3⟩ := mz_timesL (v := v) (m0 := s.1 83) hn ok n 0 1000 s2 (s.1 83 7) 0 (by rw [ix_upself, p3.1 83 rfl, h83]) (fun q hq => by rw [p2 q hq, h83]) (by omega) (by omega)
  refine ⟨sq_tl (s.1 83) v n (s.1 83 7) 0, s1, s3, ?_, ?_, jz_cm j c2 f1 ((p3.wd (fun k hk => by unfold sq_pM at hk; simp at hk ⊢; omega)).tr d3) d2 ok⟩
  · simp only [F_X11_times_0, ix_cw, ix_wi_p h1, ix_wi_p h2, ix_b1, ix_10, ix_00, if_true, if_false]
    unfold F_X3_timesWorth_50
    rw [r1, ix_b1, R.2.2.2.2.1]
    have c1' : F_X3_timesWorth_50_b18 1000 (Int32.ofNat n) v (s.1 83 7) 0 0 s0 = _ := c1
    rw [c1']
    rfl
  · simp only [F_X12_times_82, mz_in1x40, ix_wi_p h1, mz_in0x999, ix_wi_p h2, ix_b1, ix_10, ix_00, if_true, if_false]
    rw [p1, ix_b1]
    exact d1
