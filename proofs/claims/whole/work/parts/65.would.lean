/-! LAYER 2: wouldBe agrees (written by hand) -/
theorem cz_wbL {q n i N : Nat} {it : Nat → Int32} (hq : q < 4) (hn : n ≤ 40) (hi : i < 40) (hN : N ≤ 20) : ∀ (l k f : Nat) (s : am_S) (m : Nat → Int32) (w : Int32), k + l = N → l < f → sq_R s.1 8 m → sq_Ok m → s.1 73 q = Int32.ofNat n → (∀ z, z < 40 → (s.2 (75 + q) z).toInt32 = it z) → ∃ s', F_X11_worthOfItems_0_b6 f (Int32.ofNat q) (Int32.ofNat i) (Int32.ofNat N) w (Int32.ofNat k) s = some ((sq_ga it n true l (i + k) m w).2, s') ∧ sq_R s'.1 8 (sq_ga it n true l (i + k) m w).1 ∧ ix_Fr (fun q => q == 8 || q == 13 || q == 23) s s' := by
  have hi4 : am_in (Int32.ofNat q) 4 := (ix_in (by omega)).mpr (by omega)
  have hnq : (Int32.ofNat q).toNatClampNeg = q := ix_nat (by omega)
  intro l
  induction l with
  | zero =>
    intro k f s m w hl hf R ok h73 hit
    obtain ⟨f, rfl⟩ : ∃ g, f = g + 1 := ⟨f - 1, by omega⟩
    refine ⟨s, ?_, R, ix_Fr.rf⟩
    rw [F_X11_worthOfItems_0_b6, if_pos (by rw [ix_le (by omega) (by omega)]; omega)]
    rfl
  | succ l ih =>
    intro k f s m w hl hf R ok h73 hit
    obtain ⟨f, rfl⟩ : ∃ g, f = g + 1 := ⟨f - 1, by omega⟩
    rw [F_X11_worthOfItems_0_b6, if_neg (by rw [ix_le (by omega) (by omega)]; omega), ix_add, cz_hasItem hq, h73, ix_iN (by omega) (by omega), ix_b1, sq_ga]
    dsimp only
    by_cases h1 : i + k < n
    rotate_left
    · rw [if_neg h1, if_neg h1, if_pos (show (0 : Int32) = 0 from rfl)]
      exact ⟨s, rfl, R, ix_Fr.rf⟩
    have hik : am_in (Int32.ofNat (i + k)) 40 := (ix_in (by omega)).mpr (by omega)
    have hnk : (Int32.ofNat (i + k)).toNatClampNeg = i + k := ix_nat (by omega)
    rw [if_pos h1, if_pos h1, if_neg (show ¬ (1 : Int32) = 0 by decide), if_pos hi4, if_pos hik, ix_b1]
    simp only [hnq, hnk]
    rw [hit (i + k) (by omega), cz_isAct R, ix_b1]
    dsimp only
    by_cases h2 : sq_ac m (it (i + k))
    rotate_left
    · rw [if_neg h2, if_pos (show (0 : Int32) = 0 from rfl), if_neg (show ¬ (sq_ac m (it (i + k)) ∧ m 3 < m 2) from fun z => h2 z.1), if_pos trivial]
      exact ⟨s, rfl, R, ix_Fr.rf⟩
    rw [if_pos h2, if_neg (show ¬ (1 : Int32) = 0 by decide), cz_over R ok, ix_b1]
    dsimp only
    by_cases h3 : m 3 < m 2
    rotate_left
    · rw [if_neg h3, if_neg (show ¬ (1 : Int32) = 0 by decide), if_neg (show ¬ (sq_ac m (it (i + k)) ∧ m 3 < m 2) from fun z => h3 z.2), if_pos trivial]
      exact ⟨s, rfl, R, ix_Fr.rf⟩
    obtain ⟨s1, c1, c2, c3⟩ := cz_ac R ok h2
    rw [if_pos h3] at c1 c2
    obtain ⟨g1, -, -, -⟩ := sq_go_ok (a := (it (i + k)).toNatClampNeg) ok h3
    rw [if_pos h3, if_pos (show (0 : Int32) = 0 from rfl), c1, ix_b1, ix_addL, if_pos ⟨h2, h3⟩]
    dsimp only
    obtain ⟨s', i1, i2, i3⟩ := ih (k + 1) f s1 _ (w + (sq_go m (it (i + k)).toNatClampNeg).2) (by omega) (by omega) c2 g1 (by rw [c3.1 73 rfl]; exact h73) (by rw [c3.2]; exact hit)
    exact ⟨s', i1, i2, c3.tr i3⟩
/-- the model: whatever it found, the sea goes back; r is what it answers -/
theorem mz_wbL {q n i N : Nat} {it m0 : Nat → Int32} (hq : q < 4) (hn : n ≤ 40) (hi : i < 40) (hN : N ≤ 20) : ∀ (l k f : Nat) (s : am_S) (w : Int32), k + l = N → l + 1 < f → sq_Ok (s.1 83) → (∀ z, ¬ sq_ch z → s.1 83 z = m0 z) → (∀ z, z < 296 → s.1 85 z = m0 z) → s.1 94 q = Int32.ofNat n → (∀ z, z < 40 → s.1 95 (40 * q + z) = it z) → ∃ s', F_X12_wouldBe_82_b37 f (Int32.ofNat q) (Int32.ofNat i) (Int32.ofNat N) 0 w (Int32.ofNat k) s = some ((sq_ga it n true l (i + k) (s.1 83) w).2, s') ∧ s'.1 83 = m0 ∧ ix_Fr (fun q => q == 83 || q == 86) s s' := by
  have g0 : (40 : Int32) * Int32.ofNat q = Int32.ofNat (40 * q) := ix_Lmul q 40
  intro l
  induction l with
  | zero =>
    intro k f s w hl hf ok hm h85 h94 hit
    obtain ⟨f, rfl⟩ : ∃ g, f = g + 1 := ⟨f - 1, by omega⟩
    obtain ⟨s1, b1, b2, b3⟩ := mz_back (m := m0) h85 (fun z hz => hm z (by unfold sq_ch; omega))
    refine ⟨s1, ?_, b2, b3.wd (fun k hk => by simp at hk ⊢; omega)⟩
    rw [F_X12_wouldBe_82_b37, if_pos (by rw [ix_le (by omega) (by omega)]; omega), F_X12_wouldBe_82_b138, b1, ix_b1]
    rfl
  | succ l ih =>
    intro k f s w hl hf ok hm h85 h94 hit
    obtain ⟨f, rfl⟩ : ∃ g, f = g + 1 := ⟨f - 1, by omega⟩
    -- refused with y
    have hno : ∀ y : Int32, ¬ y = 0 → ∃ s', F_X12_wouldBe_82_b98 (F_X12_wouldBe_82_b37 f) (Int32.ofNat q) (Int32.ofNat i) (Int32.ofNat N) w (Int32.ofNat k) y s = some (y, s') ∧ s'.1 83 = m0 ∧ ix_Fr (fun q => q == 83 || q == 86) s s' := by
      intro y hy
      obtain ⟨f, rfl⟩ : ∃ g, f = g + 1 := ⟨f - 1, by omega⟩
      obtain ⟨s1, b1, b2, b3⟩ := mz_back (m := m0) h85 (fun z hz => hm z (by unfold sq_ch; omega))
      refine ⟨s1, ?_, b2, b3.wd (fun k hk => by simp at hk ⊢; omega)⟩
      rw [F_X12_wouldBe_82_b98, if_neg hy, F_X12_wouldBe_82_b129, F_X12_wouldBe_82_b37, if_neg hy, F_X12_wouldBe_82_b138, b1, ix_b1, if_neg hy]
      split <;> rfl
    rw [F_X12_wouldBe_82_b37, if_neg (by rw [ix_le (by omega) (by omega)]; omega), if_pos (show (0 : Int32) = 0 from rfl), ix_64a (by omega), mz_isItem hq, h94, ix_iN (by omega) (by omega), ix_b1, sq_ga]
    dsimp only
    by_cases h1 : i + k < n
    rotate_left
    · rw [if_neg h1, if_neg h1, if_pos (show (0 : Int32) = 0 from rfl)]
      exact hno (-12) (by decide)
    have hik : am_in (Int32.ofNat (40 * q + i + k)) 160 := (ix_in (by omega)).mpr (by omega)
    have hnk : (Int32.ofNat (40 * q + i + k)).toNatClampNeg = 40 * q + (i + k) := by rw [ix_nat (by omega)]; omega
    rw [if_pos h1, if_pos h1, if_neg (show ¬ (1 : Int32) = 0 by decide), g0, ix_add, ix_add, if_pos hik, hnk, hit (i + k) (by omega), mz_isAct, ix_b1]
    dsimp only
    by_cases h2 : sq_ac (s.1 83) (it (i + k)) ∧ s.1 83 3 < s.1 83 2
    · rw [if_pos h2, if_neg (show ¬ (1 : Int32) = 0 by decide), if_pos h2]
      obtain ⟨a, ha, ea⟩ := sq_acN ok h2.1
      have hc := (sq_cn_ok ok).1
      have ea2 : (it (i + k)).toNatClampNeg = a := by rw [ea, ix_nat (by omega)]
      obtain ⟨s1, c1, c2, c3⟩ := mz_goes ok (sq_lt16 ok h2.2) ha
      obtain ⟨g1, g2, -, -⟩ := sq_go_ok (a := a) ok h2.2
      rw [← ea] at c1
      rw [F_X12_wouldBe_82_b98, if_pos (show (0 : Int32) = 0 from rfl), g0, ix_add, ix_add, if_pos hik, hnk, hit (i + k) (by omega), c1, ix_b1, F_X12_wouldBe_82_b129, ix_addL, ea2]
      dsimp only
      obtain ⟨s', i1, i2, i3⟩ := ih (k + 1) f s1 (w + (sq_go (s.1 83) a).2) (by omega) (by omega) (by rw [c2]; exact g1) (fun z hz => by rw [c2]; exact (g2 z hz).trans (hm z hz)) (by rw [c3.1 85 rfl]; exact h85) (by rw [c3.1 94 rfl]; exact h94) (by rw [c3.1 95 rfl]; exact hit)
      rw [c2] at i1
      exact ⟨s', i1, i2, c3.tr i3⟩
    · rw [if_neg h2, if_pos (show (0 : Int32) = 0 from rfl), if_neg h2, if_pos (show true = true from rfl)]
      exact hno (-4) (by decide)
theorem ag_wouldBe {a b c : Int32} : jz_A (F_X11_wouldBe_0 a b c) (F_X12_wouldBe_82 a b c) := by
  intro s j
  have z1 : ¬ (1 : Int32) = 0 := by decide
  by_cases h1 : (0 : Int32) ≤ a ∧ a ≤ 3
  rotate_left
  · refine jz_A0 (v := -1) j ?_ ?_
    · rw [F_X11_wouldBe_0, cz_refusalActs0 h1, ix_b1]; rfl
    · rw [F_X12_wouldBe_82, mz_isSpan0 (fun z => h1 z.1), ix_b1]; rfl
  obtain ⟨q, -, hq, rfl⟩ := ix_rng (a := 0) (b := 3) (by omega) (by omega) h1
  have hq4 : q < 4 := by omega
  by_cases h2 : (0 : Int32) ≤ c ∧ c ≤ 20
  rotate_left
  · refine jz_A0 (v := -1) j ?_ ?_
    · rw [F_X11_wouldBe_0, cz_refusalActs hq4, ix_b1, if_neg h2]; rfl
    · rw [F_X12_wouldBe_82, mz_isSpan0 (fun z => h2 z.2), ix_b1]; rfl
  obtain ⟨N, -, hN, rfl⟩ := ix_rng (a := 0) (b := 20) (by omega) (by omega) h2
  have hw := mz_whyNot (k := 0) j.2.2.2.2.1 hq4
  have hw2 := cz_refusalActs (c := Int32.ofNat N) (s := s) hq4
  rw [if_pos h2] at hw2
  obtain ⟨r, er⟩ : ∃ r : Int32, r = if s.1 72 q = -1 then -11 else if s.1 72 q = 0 then 0 else -13 := ⟨_, rfl⟩
  rw [← er] at hw hw2
  by_cases hr : r = 0
  rotate_left
  · refine jz_A0 (v := r) j ?_ ?_
    · rw [F_X11_wouldBe_0, hw2, ix_b1, if_neg hr]
    · rw [F_X12_wouldBe_82, mz_isSpan1 h1 h2, ix_b1]
      dsimp only
      rw [if_neg z1, hw, ix_b1, if_neg hr]
  obtain ⟨b1, b2, b3, ⟨n, hn40, e73⟩, b5⟩ := j.2.2.2.2.1 q hq4
  have e94 : s.1 94 q = Int32.ofNat n := by rw [← b3, e73]
  obtain ⟨ok, R⟩ := j.1
  obtain ⟨t1, r1, r2, r3⟩ := cz_rem R
  have R1 : sq_R t1.1 8 (s.1 83) := sq_R_fr (fun k h1 h2 => r3.1 k (by simp; omega)) R
  -- what both answer, and how the sea comes back
  have hgo : ∀ (v : Int32) (m' : Nat → Int32) (t2 : am_S), F_X11_worthOfItems_0_b6 1000 (Int32.ofNat q) b (Int32.ofNat N) 0 0 t1 = some (v, t2) → sq_R t2.1 8 m' → (∀ z, ¬ sq_ch z → m' z = s.1 83 z) → ix_Fr (fun q => q == 8 || q == 13 || q == 23) t1 t2 → (∀ u : am_S, u.1 83 = s.1 83 → (∀ z, z < 296 → u.1 85 z = s.1 83 z) → u.1 94 = s.1 94 → u.1 95 = s.1 95 → ∃ u', F_X12_wouldBe_82_b37 1000 (Int32.ofNat q) b (Int32.ofNat N) 0 0 0 u = some (v, u') ∧ u'.1 83 = s.1 83 ∧ ix_Fr (fun q => q == 83 || q == 86) u u') → ∃ v s1 s2, F_X11_wouldBe_0 (Int32.ofNat q) b (Int32.ofNat N) s = some (v, s1) ∧ F_X12_wouldBe_82 (Int32.ofNat q) b (Int32.ofNat N) s1 = some (v, s2) ∧ jz_J s2 := by
    intro v m' t2 hc R2 hm f2 hmod
    obtain ⟨t3, k1, k2, k3⟩ := cz_goBack R2 hm (by rw [f2.1 51 rfl]; exact r2)
    have fc : ix_Fr sq_pC s t3 := ((r3.wd (fun k hk => by unfold sq_pC at hk; simp at hk ⊢; omega)).tr (f2.wd (fun k hk => by unfold sq_pC at hk; simp at hk ⊢; omega))).tr (k3.wd (fun k hk => by unfold sq_pC at hk; simp at hk ⊢; omega))
    have g3 : ∀ z, 66 ≤ z → t3.1 z = s.1 z := fun z hz => fc.1 z (by unfold sq_pC; simp; omega)
    have jH : jz_H t3 := jz_H_fr (fun k q h => by rw [g3 k (by omega)]) fc.2 j.2.2.2.2.1
    have hw3 := mz_whyNot (k := 0) jH hq4
    rw [g3 72 (by omega), ← er] at hw3
    obtain ⟨u, p1, p2, p3⟩ := mz_puts t3
    obtain ⟨u', v1, v2, v3⟩ := hmod u (by rw [p3.1 83 rfl, g3 83 (by omega)]) (fun z hz => by rw [p2 z hz, g3 83 (by omega)]) (by rw [p3.1 94 rfl, g3 94 (by omega)]) (by rw [p3.1 95 rfl, g3 95 (by omega)])
    refine ⟨v, t3, u', ?_, ?_, jz_cm j k2 fc ((p3.wd (fun k hk => by unfold sq_pM at hk; simp at hk ⊢; omega)).tr (v3.wd (fun k hk => by unfold sq_pM at hk; simp at hk ⊢; omega))) v2 ok⟩
    · rw [F_X11_wouldBe_0, hw2, ix_b1, if_pos hr, r1, ix_b1, F_X11_worthOfItems_0, hc, ix_b1, k1, ix_b1]
    · rw [F_X12_wouldBe_82, mz_isSpan1 h1 h2, ix_b1]
      dsimp only
      rw [if_neg z1, hw3, ix_b1, if_pos hr, p1, ix_b1, hr, v1]
  have hbk : ∀ (v : Int32) (u : am_S), u.1 83 = s.1 83 → (∀ z, z < 296 → u.1 85 z = s.1 83 z) → ∃ u', F_X12_putsBack_82 u = some u' ∧ u'.1 83 = s.1 83 ∧ ix_Fr (fun q => q == 83 || q == 86) u u' := by
    intro v u h83 h85
    obtain ⟨u', b1, b2, b3⟩ := mz_back (s := u) (m := s.1 83) h85 (fun z _ => by rw [h83])
    exact ⟨u', b1, b2, b3.wd (fun k hk => by simp at hk ⊢; omega)⟩
  by_cases hN0 : N = 0
  · subst hN0
    refine hgo 0 (s.1 83) t1 ?_ R1 (fun _ _ => rfl) ix_Fr.rf (fun u h83 h85 _ _ => ?_)
    · rw [F_X11_worthOfItems_0_b6, if_pos (by decide)]
    · obtain ⟨u', b1, b2, b3⟩ := hbk 0 u h83 h85
      refine ⟨u', ?_, b2, b3⟩
      rw [F_X12_wouldBe_82_b37, if_pos (by decide), F_X12_wouldBe_82_b138, b1, ix_b1]; rfl
  by_cases h3 : 0 ≤ b ∧ b ≤ Int32.ofNat n - 1
  rotate_left
  · have hle : ¬ Int32.ofNat N ≤ 0 := by rw [ix_leL (by omega) (by omega)]; omega
    have h64 : b.toInt64 + (0 : Int32).toInt64 = b.toInt64 := by
      have : (0 : Int32).toInt64 = 0 := rfl
      rw [this, Int64.add_zero]
    have e73' : t1.1 73 q = Int32.ofNat n := by rw [r3.1 73 rfl]; exact e73
    refine hgo (-12) (s.1 83) t1 ?_ R1 (fun _ _ => rfl) ix_Fr.rf (fun u h83 h85 h94 _ => ?_)
    · rw [F_X11_worthOfItems_0_b6, if_neg hle, Int32.add_zero, cz_hasItem hq4, e73', ix_wi_n h3]; rfl
    · obtain ⟨u', b1, b2, b3⟩ := hbk 0 u h83 h85
      refine ⟨u', ?_, b2, b3⟩
      have h94' : u.1 94 q = Int32.ofNat n := by rw [h94]; exact e94
      have z12 : ¬ (-12 : Int32) = 0 := by decide
      rw [F_X12_wouldBe_82_b37, if_neg hle, if_pos (show (0 : Int32) = 0 from rfl), h64, mz_isItem hq4, h94', ix_wi_n h3, ix_b1]
      dsimp only
      rw [if_pos (show (0 : Int32) = 0 from rfl), F_X12_wouldBe_82_b98, if_neg z12, F_X12_wouldBe_82_b129, F_X12_wouldBe_82_b37, if_neg z12, F_X12_wouldBe_82_b138, b1, ix_b1, if_neg z12]
      split <;> rfl
  obtain ⟨i, hi, rfl⟩ := sq_itN (by omega) h3
  obtain ⟨t2, c1, c2, c3⟩ := cz_wbL (i := i) (it := fun z => s.1 95 (40 * q + z)) hq4 hn40 (by omega) hN N 0 1000 t1 (s.1 83) 0 (by omega) (by omega) R1 ok (by rw [r3.1 73 rfl]; exact e73) (by rw [r3.2]; exact b5)
  refine hgo _ _ t2 c1 c2 (sq_ga_ok N (i + 0) (s.1 83) 0 ok).2 c3 (fun u h83 h85 h94 h95 => ?_)
  have h := mz_wbL (i := i) (it := fun z => s.1 95 (40 * q + z)) (m0 := s.1 83) hq4 hn40 (by omega) hN N 0 1000 u 0 (by omega) (by omega) (by rw [h83]; exact ok) (fun z _ => by rw [h83]) h85 (by rw [h94]; exact e94) (by intro z _; rw [h95])
  rw [h83] at h
  exact h
