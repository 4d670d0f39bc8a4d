/-! LAYER 2: judge agrees (written by hand) -/
abbrev sq_ac (m : Nat → Int32) (a : Int32) : Prop := 0 ≤ a ∧ a ≤ m 0
theorem sq_acN {m : Nat → Int32} {a : Int32} (ok : sq_Ok m) (h : sq_ac m a) : ∃ k, k ≤ sq_cn m ∧ a = Int32.ofNat k := by
  obtain ⟨hc, h0⟩ := sq_cn_ok ok
  unfold sq_ac at h
  rw [h0] at h
  exact ix_of2 (by omega) h.1 h.2
theorem cz_isAct {s : am_S} {m : Nat → Int32} {a : Int32} (R : sq_R s.1 8 m) : F_X8_isAct_8 a s = some (if sq_ac m a then 1 else 0, s) := by
  unfold F_X8_isAct_8
  rw [R.2.2.2.2.2.1]
  by_cases h1 : a < 0
  · rw [if_pos h1, if_neg (fun z : sq_ac m a => absurd h1 (Int32.not_lt.mpr z.1))]
  · rw [if_neg h1]
    by_cases h2 : m 0 < a
    · rw [if_pos h2, if_neg (fun z : sq_ac m a => absurd h2 (Int32.not_lt.mpr z.2))]
    · rw [if_neg h2, if_pos (show sq_ac m a from ⟨Int32.not_lt.mp h1, Int32.not_lt.mp h2⟩)]
theorem mz_isAct {s : am_S} {a : Int32} : F_X12_isAct_82 a s = some (if sq_ac (s.1 83) a ∧ s.1 83 3 < s.1 83 2 then 1 else 0, s) := by
  unfold F_X12_isAct_82
  have n0 : (0 : Int32).toNatClampNeg = 0 := rfl
  rw [if_pos ix_k0, n0, ix_mw0, ix_b1]
  dsimp only
  by_cases h : sq_ac (s.1 83) a
  · rw [ix_wi_p h, if_neg (show ¬ (1 : Int32) = 0 by decide), mz_over, ix_b1]
    dsimp only
    by_cases h2 : s.1 83 3 < s.1 83 2
    · rw [if_pos h2, if_pos rfl, if_pos ⟨h, h2⟩]
    · rw [if_neg h2, if_neg (show ¬ (1 : Int32) = 0 by decide), if_neg (show ¬ (sq_ac (s.1 83) a ∧ s.1 83 3 < s.1 83 2) from fun z => h2 z.2)]
  · rw [ix_wi_n h, if_pos rfl, if_neg (show ¬ (sq_ac (s.1 83) a ∧ s.1 83 3 < s.1 83 2) from fun z => h z.1)]
/-- the first wrong row -/
abbrev sq_jr (m : Nat → Int32) (r : Nat → Int32) : Prop := (sq_ac m (r 0) ∧ m 3 < m 2) ∧ (sq_go m (r 0).toNatClampNeg).2 = r 1 ∧ Int32.ofNat (sq_cs (sq_go m (r 0).toNatClampNeg).1) = r 2
def sq_jd (r : Nat → Nat → Int32) : Nat → Nat → (Nat → Int32) → Int32
  | 0, _, _ => 0
  | l + 1, i, m => if sq_jr m (r i) then sq_jd r l (i + 1) (sq_go m (r i 0).toNatClampNeg).1 else Int32.ofNat (i + 1)
theorem sq_jd_p {r : Nat → Nat → Int32} {l i : Nat} {m : Nat → Int32} (h : sq_jr m (r i)) : sq_jd r (l + 1) i m = sq_jd r l (i + 1) (sq_go m (r i 0).toNatClampNeg).1 := by
  rw [sq_jd]; exact if_pos h
theorem sq_jd_n {r : Nat → Nat → Int32} {l i : Nat} {m : Nat → Int32} (h : ¬ sq_jr m (r i)) : sq_jd r (l + 1) i m = Int32.ofNat (i + 1) := by
  rw [sq_jd]; exact if_neg h
def sq_pJ (k j : Nat) : Bool := k == 8 || k == 13 || k == 23
/-- is a row right -/
theorem cz_right {s : am_S} {m : Nat → Int32} {i : Nat} (R : sq_R s.1 8 m) (ok : sq_Ok m) (hi : i < 4) : ∃ s', F_X3_isRight_50_f65 i s = some (if sq_jr m (s.1 (66 + i)) then 1 else 0, s') ∧ (sq_jr m (s.1 (66 + i)) → sq_R s'.1 8 (sq_go m (s.1 (66 + i) 0).toNatClampNeg).1) ∧ (∃ m', sq_R s'.1 8 m' ∧ ∀ q, ¬ sq_ch q → m' q = m q) ∧ ix_Fr (fun q => q == 8 || q == 13 || q == 23) s s' := by
  have n0 : (0 : Int32).toNatClampNeg = 0 := rfl
  have n1 : (1 : Int32).toNatClampNeg = 1 := rfl
  have n2 : (2 : Int32).toNatClampNeg = 2 := rfl
  have w0 : am_in (0 : Int32) 3 := by decide
  have w1 : am_in (1 : Int32) 3 := by decide
  have w2 : am_in (2 : Int32) 3 := by decide
  have hneg : ∀ {s' : am_S}, ¬ sq_jr m (s.1 (66 + i)) → some ((0 : Int32), s') = some (if sq_jr m (s.1 (66 + i)) then 1 else 0, s') := fun h => by
    rw [if_neg h]
  rw [F_X3_isRight_50_f65, if_neg (show ¬ (3 : Int32) < 3 by decide), cz_over R ok, ix_b1]
  dsimp only
  by_cases h32 : m 3 < m 2
  rotate_left
  · refine ⟨s, ?_, fun h => absurd h.1.2 h32, ⟨m, R, fun _ _ => rfl⟩, ix_Fr.rf⟩
    rw [if_neg h32, if_neg (show ¬ (1 : Int32) = 0 by decide)]
    exact hneg (fun h => h32 h.1.2)
  rw [if_pos h32, if_pos (show (0 : Int32) = 0 from rfl), if_pos w0]
  simp only [n0, n1, n2]
  rw [cz_isAct R, ix_b1]
  dsimp only
  by_cases ha : sq_ac m (s.1 (66 + i) 0)
  rotate_left
  · refine ⟨s, ?_, fun h => absurd h.1.1 ha, ⟨m, R, fun _ _ => rfl⟩, ix_Fr.rf⟩
    rw [if_neg ha, if_pos (show (0 : Int32) = 0 from rfl)]
    exact hneg (fun h => ha h.1.1)
  obtain ⟨k, hk, ek⟩ := sq_acN ok ha
  have hc := (sq_cn_ok ok).1
  have ek2 : (s.1 (66 + i) 0).toNatClampNeg = k := by rw [ek, ix_nat (by omega)]
  obtain ⟨s1, c1, c2, c3⟩ := cz_goBy R ok h32 hk
  rw [← ek] at c1
  obtain ⟨g1, g2, -, -⟩ := sq_go_ok (a := k) ok h32
  have er : s1.1 (66 + i) = s.1 (66 + i) := c3.1 _ (by simp; omega)
  rw [if_pos ha, if_neg (show ¬ (1 : Int32) = 0 by decide), if_pos w0, c1, ix_b1, if_pos w1, er]
  dsimp only
  by_cases hg : (sq_go m k).2 = s.1 (66 + i) 1
  rotate_left
  · refine ⟨s1, ?_, fun h => absurd (by rw [← ek2]; exact h.2.1) hg, ⟨_, c2, g2⟩, c3⟩
    rw [if_neg hg]
    exact hneg (fun h => hg (by rw [← ek2]; exact h.2.1))
  rw [if_pos hg, if_pos w2, c2.2.2.2.2.2.2.1]
  by_cases hs : Int32.ofNat (sq_cs (sq_go m k).1) = s.1 (66 + i) 2
  · refine ⟨s1, ?_, fun _ => by rw [ek2] ; exact c2, ⟨_, c2, g2⟩, c3⟩
    have hr : sq_jr m (s.1 (66 + i)) := by
      unfold sq_jr; rw [ek2]; exact ⟨⟨ha, h32⟩, hg, hs⟩
    rw [if_pos hs, if_pos hr]
  · refine ⟨s1, ?_, fun h => absurd (by have := h.2.2; rw [ek2] at this; exact this) hs, ⟨_, c2, g2⟩, c3⟩
    rw [if_neg hs]
    exact hneg (fun h => hs (by have := h.2.2; rw [ek2] at this; exact this))
theorem cz_jd {m0 : Nat → Int32} {n : Nat} {r : Nat → Nat → Int32} (hn : n ≤ 4) : ∀ (l i g : Nat) (s : am_S) (m : Nat → Int32), i + l = n → l + 1 < g → sq_R s.1 8 m → sq_Ok m → (∀ q, ¬ sq_ch q → m q = m0 q) → sq_mo (s.1 51) m0 → s.1 50 14 = Int32.ofNat n → (∀ k, k < n → s.1 (66 + k) = r k) → ∃ s', F_X3_firstWrongRow_50_b8 g 0 (Int32.ofNat i) s = some (sq_jd r l i m, s') ∧ sq_R s'.1 8 m0 ∧ ix_F2 sq_pJ s s' := by
  intro l
  induction l with
  | zero =>
    intro i g s m hl hg R ok hm mo h14 hr
    obtain ⟨g, rfl⟩ : ∃ g', g = g' + 1 := ⟨g - 1, by omega⟩
    obtain ⟨s1, b1, b2, b3⟩ := cz_goBack R hm mo
    refine ⟨s1, ?_, b2, b3.F2 (fun k j hk => by unfold sq_pJ at hk; simp at hk ⊢; omega)⟩
    rw [F_X3_firstWrongRow_50_b8, h14, if_pos (by rw [ix_le (by omega) (by omega)]; omega), F_X3_firstWrongRow_50_b43, b1, ix_b1]
    rfl
  | succ l ih =>
    intro i g s m hl hg R ok hm mo h14 hr
    obtain ⟨g, rfl⟩ : ∃ g', g = g' + 1 := ⟨g - 1, by omega⟩
    have hi4 : am_in (Int32.ofNat i) 4 := (ix_in (by omega)).mpr (by omega)
    have hnn : (Int32.ofNat i).toNatClampNeg = i := ix_nat (by omega)
    obtain ⟨s1, c1, c2, ⟨m', c3, c4⟩, c5⟩ := cz_right (i := i) R ok (by omega)
    rw [hr i (by omega)] at c1 c2
    have f1 : ix_F2 sq_pJ s s1 := c5.F2 (fun k j hk => by unfold sq_pJ at hk; simp at hk ⊢; omega)
    have mo1 : sq_mo (s1.1 51) m0 := by rw [c5.1 51 rfl]; exact mo
    rw [F_X3_firstWrongRow_50_b8, h14, if_neg (by rw [ix_le (by omega) (by omega)]; omega), if_pos (show (0 : Int32) = 0 from rfl), if_pos hi4, hnn, c1, ix_b1]
    dsimp only
    by_cases hj : sq_jr m (r i)
    · rw [if_pos hj, if_neg (show ¬ (1 : Int32) = 0 by decide), F_X3_firstWrongRow_50_b37, ix_addL, sq_jd_p hj]
      obtain ⟨g1, g2, -, -⟩ := sq_go_ok (a := (r i 0).toNatClampNeg) ok hj.1.2
      obtain ⟨s', i1, i2, i3⟩ := ih (i + 1) g s1 _ (by omega) (by omega) (c2 hj) g1 (fun q hq => (g2 q hq).trans (hm q hq)) mo1 (by rw [c5.1 50 rfl]; exact h14) (fun k hk => by rw [c5.1 _ (by simp; omega)]; exact hr k hk)
      exact ⟨s', i1, i2, f1.tr i3⟩
    · obtain ⟨g, rfl⟩ : ∃ g', g = g' + 1 := ⟨g - 1, by omega⟩
      obtain ⟨s2, b1, b2, b3⟩ := cz_goBack c3 (fun q hq => (c4 q hq).trans (hm q hq)) mo1
      refine ⟨s2, ?_, b2, f1.tr (b3.F2 (fun k j hk => by unfold sq_pJ at hk; simp at hk ⊢; omega))⟩
      have h14' : s1.1 50 14 = Int32.ofNat n := by rw [c5.1 50 rfl]; exact h14
      rw [if_neg hj, if_pos (show (0 : Int32) = 0 from rfl), F_X3_firstWrongRow_50_b37, ix_addL, sq_jd_n hj, F_X3_firstWrongRow_50_b8, h14']
      have hne : ¬ Int32.ofNat (i + 1) = (0 : Int32) := by rw [ix_eqL (by omega) (by omega)]; omega
      rw [if_neg hne, F_X3_firstWrongRow_50_b43, b1, ix_b1]
      split <;> rfl
/-- the model -/
theorem mz_jd {m0 : Nat → Int32} {n : Nat} {r : Nat → Nat → Int32} (hn : n ≤ 4) : ∀ (l i g : Nat) (s : am_S), i + l = n → l + 1 < g → sq_Ok (s.1 83) → (∀ q, ¬ sq_ch q → s.1 83 q = m0 q) → (∀ q, q < 296 → s.1 85 q = m0 q) → s.1 82 20 = Int32.ofNat n → (∀ k, k < n → ∀ w, w < 3 → s.1 91 (3 * k + w) = r k w) → ∃ s', F_X12_judge_82_b8 g 0 (Int32.ofNat i) s = some (sq_jd r l i (s.1 83), s') ∧ s'.1 83 = m0 ∧ ix_Fr (fun q => q == 83 || q == 86) s s' := by
  intro l
  induction l with
  | zero =>
    intro i g s hl hg ok hm h85 h20 hr
    obtain ⟨g, rfl⟩ : ∃ g', g = g' + 1 := ⟨g - 1, by omega⟩
    obtain ⟨s1, b1, b2, b3⟩ := mz_back (m := m0) h85 (fun q hq => hm q (by unfold sq_ch; omega))
    refine ⟨s1, ?_, b2, b3.wd (fun k hk => by simp at hk ⊢; omega)⟩
    rw [F_X12_judge_82_b8, h20, if_pos (by rw [ix_le (by omega) (by omega)]; omega), F_X12_judge_82_b101, b1, ix_b1]
    rfl
  | succ l ih =>
    intro i g s hl hg ok hm h85 h20 hr
    obtain ⟨g, rfl⟩ : ∃ g', g = g' + 1 := ⟨g - 1, by omega⟩
    have g0 : (3 : Int32) * Int32.ofNat i = Int32.ofNat (3 * i) := ix_Lmul i 3
    have g1 : Int32.ofNat (3 * i) + 1 = Int32.ofNat (3 * i + 1) := ix_add _ 1
    have g2 : Int32.ofNat (3 * i) + 2 = Int32.ofNat (3 * i + 2) := ix_add _ 2
    have ii : ∀ w, w < 12 → am_in (Int32.ofNat w) 12 := fun w hw => (ix_in (by omega)).mpr hw
    have nn : ∀ w, w < 12 → (Int32.ofNat w).toNatClampNeg = w := fun w hw => ix_nat (by omega)
    -- a wrong row: the sea goes back
    have hwr : ∀ s1 : am_S, ¬ sq_jr (s.1 83) (r i) → (∀ q, ¬ sq_ch q → s1.1 83 q = m0 q) → ix_Fr (fun q => q == 83 || q == 86) s s1 → ∃ s', F_X12_judge_82_b81 (F_X12_judge_82_b8 g) (Int32.ofNat i) s1 = some (sq_jd r (l + 1) i (s.1 83), s') ∧ s'.1 83 = m0 ∧ ix_Fr (fun q => q == 83 || q == 86) s s' := by
      intro s1 hj hm1 f1
      obtain ⟨g, rfl⟩ : ∃ g', g = g' + 1 := ⟨g - 1, by omega⟩
      obtain ⟨s2, b1, b2, b3⟩ := mz_back (s := s1) (m := m0) (fun q hq => by rw [f1.1 85 rfl]; exact h85 q hq) (fun q hq => hm1 q (by unfold sq_ch; omega))
      refine ⟨s2, ?_, b2, f1.tr (b3.wd (fun k hk => by simp at hk ⊢; omega))⟩
      have hne : ¬ Int32.ofNat (i + 1) = (0 : Int32) := by rw [ix_eqL (by omega) (by omega)]; omega
      rw [F_X12_judge_82_b81, F_X12_judge_82_b82, if_pos (show (0 : Int32) = 0 from rfl), F_X12_judge_82_b94, ix_addL, sq_jd_n hj, F_X12_judge_82_b8, if_neg hne, F_X12_judge_82_b101, b1, ix_b1]
      split <;> rfl
    rw [F_X12_judge_82_b8, h20, if_neg (by rw [ix_le (by omega) (by omega)]; omega), if_pos (show (0 : Int32) = 0 from rfl)]
    simp only [g0, g1, g2, nn (3 * i) (by omega), nn (3 * i + 1) (by omega), nn (3 * i + 2) (by omega)]
    have r0 : s.1 91 (3 * i) = r i 0 := hr i (by omega) 0 (by omega)
    rw [if_pos (ii _ (by omega)), r0, mz_isAct, ix_b1]
    dsimp only
    by_cases ha : sq_ac (s.1 83) (r i 0) ∧ s.1 83 3 < s.1 83 2
    rotate_left
    · rw [if_neg ha, if_pos (show (0 : Int32) = 0 from rfl)]
      exact hwr s (fun h => ha h.1) hm ix_Fr.rf
    obtain ⟨k, hk, ek⟩ := sq_acN ok ha.1
    have hc := (sq_cn_ok ok).1
    have ek2 : (r i 0).toNatClampNeg = k := by rw [ek, ix_nat (by omega)]
    obtain ⟨s1, c1, c2, c3⟩ := mz_goes ok (sq_lt16 ok ha.2) hk
    obtain ⟨q1, q2, -, -⟩ := sq_go_ok (a := k) ok ha.2
    have e91 : s1.1 91 = s.1 91 := c3.1 91 rfl
    have r1 : s1.1 91 (3 * i + 1) = r i 1 := by rw [e91]; exact hr i (by omega) 1 (by omega)
    have r2 : s1.1 91 (3 * i + 2) = r i 2 := by rw [e91]; exact hr i (by omega) 2 (by omega)
    have hm1 : ∀ q, ¬ sq_ch q → s1.1 83 q = m0 q := fun q hq => by rw [c2]; exact (q2 q hq).trans (hm q hq)
    rw [if_pos ha, if_neg (show ¬ (1 : Int32) = 0 by decide), if_pos (ii _ (by omega)), r0, ek, c1, ix_b1, if_pos (ii _ (by omega))]
    dsimp only
    rw [r1]
    by_cases hg1 : (sq_go (s.1 83) k).2 = r i 1
    rotate_left
    · rw [if_neg hg1]
      exact hwr s1 (fun h => hg1 (by rw [← ek2]; exact h.2.1)) hm1 c3
    have hcs := mz_caught (s := s1) (by rw [c2]; exact q1)
    rw [c2] at hcs
    rw [if_pos hg1, hcs, ix_b1, if_pos (ii _ (by omega))]
    dsimp only
    rw [r2]
    by_cases hs : Int32.ofNat (sq_cs (sq_go (s.1 83) k).1) = r i 2
    · have hj : sq_jr (s.1 83) (r i) := by
        unfold sq_jr; rw [ek2]; exact ⟨ha, hg1, hs⟩
      obtain ⟨s', i1, i2, i3⟩ := ih (i + 1) g s1 (by omega) (by omega) (by rw [c2]; exact q1) hm1 (by rw [c3.1 85 rfl]; exact h85) (by rw [c3.1 82 rfl]; exact h20) (by rw [e91]; exact hr)
      refine ⟨s', ?_, i2, c3.tr i3⟩
      rw [if_pos hs, F_X12_judge_82_b82, if_neg (show ¬ (1 : Int32) = 0 by decide), F_X12_judge_82_b94, ix_addL, i1, sq_jd_p hj, ek2, c2]
    · rw [if_neg hs]
      exact hwr s1 (fun h => hs (by have := h.2.2; rw [ek2] at this; exact this)) hm1 c3
theorem sq_jd_c {r r' : Nat → Nat → Int32} : ∀ (l i : Nat) (m : Nat → Int32), (∀ k, k < i + l → ∀ w, w < 3 → r k w = r' k w) → sq_jd r l i m = sq_jd r' l i m := by
  intro l
  induction l with
  | zero => intro i m _; rfl
  | succ l ih =>
    intro i m h
    have h0 := h i (by omega) 0 (by omega)
    have h1 := h i (by omega) 1 (by omega)
    have h2 := h i (by omega) 2 (by omega)
    have e : sq_jr m (r i) = sq_jr m (r' i) := by unfold sq_jr; rw [h0, h1, h2]
    by_cases hj : sq_jr m (r i)
    · rw [sq_jd_p hj, sq_jd_p (by rw [← e]; exact hj), ih (i + 1) _ (fun k hk w hw => h k (by omega) w hw), h0]
    · rw [sq_jd_n hj, sq_jd_n (by rw [← e]; exact hj)]
theorem ag_judge : jz_A F_X11_judge_0 F_X12_judge_82 := by
  intro s j
  obtain ⟨ok, R⟩ := j.1
  obtain ⟨n, n1, n2, n3, n4⟩ := j.2.2.2.1
  obtain ⟨s1, r1, r2, r3⟩ := cz_rem R
  obtain ⟨s2, w1, w2, w3⟩ := cz_jd (m0 := s.1 83) (r := fun k => s.1 (66 + k)) n1 n 0 1000 s1 (s.1 83) (by omega) (by omega) (sq_R_fr (fun k h1 h2 => r3.1 k (by simp; omega)) R) ok (fun _ _ => rfl) r2 (by rw [r3.1 50 rfl]; exact n2) (fun k hk => r3.1 _ (by simp; omega))
  have fc : ix_F2 sq_pS s s2 := (r3.F2 (fun k j hk => by unfold sq_pS at hk; simp at hk ⊢; omega)).tr (w3.wd (fun k j hk => by unfold sq_pS at hk; unfold sq_pJ; simp at hk ⊢; omega))
  have g2 : ∀ z, 66 ≤ z → s2.1 z = s.1 z := fun z hz => by
    have a1 : s2.1 z = s1.1 z := funext fun q => w3.1 z q (by unfold sq_pJ; simp; omega)
    rw [a1, r3.1 z (by simp; omega)]
  have h83 := g2 83 (by omega)
  obtain ⟨s3, p1, p2, p3⟩ := mz_puts s2
  have h833 : s3.1 83 = s.1 83 := by rw [p3.1 83 rfl, h83]
  obtain ⟨s4, v1, v2, v3⟩ := mz_jd (m0 := s.1 83) (r := fun k => s.1 (66 + k)) n1 n 0 1000 s3 (by omega) (by omega) (by rw [h833]; exact ok) (fun q _ => by rw [h833]) (fun q hq => by rw [p2 q hq, h83]) (by rw [p3.1 82 rfl, g2 82 (by omega)]; exact n3) (fun k hk w hw => by rw [p3.1 91 rfl, g2 91 (by omega)]; exact (n4 k hk w hw).symm)
  rw [h833] at v1
  have fm : ix_F2 sq_pS s2 s4 := (p3.F2 (fun k j hk => by unfold sq_pS at hk; simp at hk ⊢; omega)).tr (v3.F2 (fun k j hk => by unfold sq_pS at hk; simp at hk ⊢; omega))
  refine ⟨sq_jd (fun k => s.1 (66 + k)) n 0 (s.1 83), s2, s4, ?_, ?_, jz_fin j w2 fc fm (fun k h1 h2 => ?_) v2 ok⟩
  · have w1' : F_X3_firstWrongRow_50_b8 1000 0 0 s1 = _ := w1
    rw [F_X11_judge_0, F_X3_firstWrongRow_50, r1, ix_b1, w1', ix_b1]
  · have v1' : F_X12_judge_82_b8 1000 0 0 s3 = _ := v1
    rw [F_X12_judge_82, p1, ix_b1, v1']
  · rw [v3.1 k (by simp; omega), p3.1 k (by simp; omega)]
