/-! LAYER 2: acts on a sheet: goAll, wouldBe agree (written by hand) -/
def sq_ga (it : Nat → Int32) (n : Nat) (st : Bool) : Nat → Nat → (Nat → Int32) → Int32 → (Nat → Int32) × Int32
  | 0, _, m, w => (m, w)
  | l + 1, k, m, w => if k < n then (if sq_ac m (it k) ∧ m 3 < m 2 then sq_ga it n st l (k + 1) (sq_go m (it k).toNatClampNeg).1 (w + (sq_go m (it k).toNatClampNeg).2) else if st = true then (m, -4) else sq_ga it n st l (k + 1) m w) else (m, -12)
theorem sq_ga_ok {it : Nat → Int32} {n : Nat} {st : Bool} : ∀ (l k : Nat) (m : Nat → Int32) (w : Int32), sq_Ok m → sq_Ok (sq_ga it n st l k m w).1 ∧ ∀ j, ¬ sq_ch j → (sq_ga it n st l k m w).1 j = m j := by
  intro l
  induction l with
  | zero => intro k m w ok; exact ⟨ok, fun _ _ => rfl⟩
  | succ l ih =>
    intro k m w ok
    rw [sq_ga]
    by_cases h1 : k < n
    · rw [if_pos h1]
      by_cases h2 : sq_ac m (it k) ∧ m 3 < m 2
      · rw [if_pos h2]
        obtain ⟨g1, g2, -, -⟩ := sq_go_ok (a := (it k).toNatClampNeg) ok h2.2
        obtain ⟨i1, i2⟩ := ih (k + 1) _ (w + (sq_go m (it k).toNatClampNeg).2) g1
        exact ⟨i1, fun j hj => (i2 j hj).trans (g2 j hj)⟩
      · rw [if_neg h2]
        cases st with
        | true => exact ⟨ok, fun _ _ => rfl⟩
        | false => exact ih (k + 1) m w ok
    · rw [if_neg h1]; exact ⟨ok, fun _ _ => rfl⟩
theorem ix_64a {i k : Nat} (h : i + k < 1000000) : (Int32.ofNat i).toInt64 + (Int32.ofNat k).toInt64 = (Int32.ofNat (i + k)).toInt64 := by
  rw [← Int64.toInt_inj, Int64.toInt_add, Int32.toInt_toInt64, Int32.toInt_toInt64, Int32.toInt_toInt64, ix_int (by omega), ix_int (by omega), ix_int (by omega), Int.bmod_eq_of_le (by omega) (by omega)]
  omega
theorem ix_iN {k n : Nat} (hk : k < 1000) (hn : n < 1000) : ix_wi (Int32.ofNat k) 0 (Int32.ofNat n - 1) = if k < n then 1 else 0 := by
  by_cases h : k < n
  · rw [if_pos h, ix_wi_p]
    refine ⟨?_, (ix_le1 (by omega)).mpr ?_⟩
    · rw [ix_Lle (by omega) (by omega)]; omega
    · rw [ix_le (by omega) (by omega)]; omega
  · rw [if_neg h, ix_wi_n]
    rintro ⟨-, z⟩
    have := (ix_le1 (by omega)).mp z
    rw [ix_le (by omega) (by omega)] at this
    omega
theorem mz_isItem {q : Nat} {i : Int32} {s : am_S} (hq : q < 4) : F_X12_isItem_82 (Int32.ofNat q) i.toInt64 s = some (ix_wi i 0 (s.1 94 q - 1), s) := by
  have hn : (Int32.ofNat q).toNatClampNeg = q := ix_nat (by omega)
  unfold F_X12_isItem_82
  rw [if_pos ((ix_in (by omega)).mpr hq)]
  simp only [hn]
  rw [ix_mw0, ix_b1]
  exact if_pos ix_wi_or
/-- an act, as the class takes it -/
theorem cz_ac {s : am_S} {m : Nat → Int32} {a : Int32} (R : sq_R s.1 8 m) (ok : sq_Ok m) (h : sq_ac m a) : ∃ s', F_X8_goBy_8 a s = some (if m 3 < m 2 then (sq_go m a.toNatClampNeg).2 else 0, s') ∧ sq_R s'.1 8 (if m 3 < m 2 then (sq_go m a.toNatClampNeg).1 else m) ∧ ix_Fr (fun q => q == 8 || q == 13 || q == 23) s s' := by
  obtain ⟨k, hk, rfl⟩ := sq_acN ok h
  have hc := (sq_cn_ok ok).1
  rw [ix_nat (by omega)]
  by_cases h2 : m 3 < m 2
  · rw [if_pos h2, if_pos h2]; exact cz_goBy R ok h2 hk
  · rw [if_neg h2, if_neg h2]; exact ⟨s, cz_goBy0 R ok h2, R, ix_Fr.rf⟩
theorem cz_gaL {q n i N : Nat} {it : Nat → Int32} {x4 : Int32} (hq : q < 4) (hn : n ≤ 40) (hi : i < 40) (hN : N ≤ 20) : ∀ (l k f : Nat) (s : am_S) (m : Nat → Int32) (w : Int32), k + l = N → l < f → sq_R s.1 8 m → sq_Ok m → s.1 73 q = Int32.ofNat n → (∀ z, z < 40 → (s.2 (75 + q) z).toInt32 = it z) → ∃ s', F_X11_goAll_0_b22 f (Int32.ofNat q) (Int32.ofNat i) (Int32.ofNat N) x4 w (Int32.ofNat k) s = some ((sq_ga it n false l (i + k) m w).2, s') ∧ sq_R s'.1 8 (sq_ga it n false l (i + k) m w).1 ∧ ix_Fr (fun q => q == 8 || q == 13 || q == 23) s s' := by
  have hi4 : am_in (Int32.ofNat q) 4 := (ix_in (by omega)).mpr (by omega)
  have hnq : (Int32.ofNat q).toNatClampNeg = q := ix_nat (by omega)
  intro l
  induction l with
  | zero =>
    intro k f s m w hl hf R ok h73 hit
    obtain ⟨f, rfl⟩ : ∃ g, f = g + 1 := ⟨f - 1, by omega⟩
    refine ⟨s, ?_, R, ix_Fr.rf⟩
    rw [F_X11_goAll_0_b22, if_pos (by rw [ix_le (by omega) (by omega)]; omega)]
    rfl
  | succ l ih =>
    intro k f s m w hl hf R ok h73 hit
    obtain ⟨f, rfl⟩ : ∃ g, f = g + 1 := ⟨f - 1, by omega⟩
    rw [F_X11_goAll_0_b22, if_neg (by rw [ix_le (by omega) (by omega)]; omega), ix_add, cz_hasItem hq, h73, ix_iN (by omega) (by omega), ix_b1, sq_ga]
    dsimp only
    by_cases h1 : i + k < n
    rotate_left
    · rw [if_neg h1, if_neg h1, if_pos (show (0 : Int32) = 0 from rfl)]
      exact ⟨s, rfl, R, ix_Fr.rf⟩
    have hik : am_in (Int32.ofNat (i + k)) 40 := (ix_in (by omega)).mpr (by omega)
    have hnk : (Int32.ofNat (i + k)).toNatClampNeg = i + k := ix_nat (by omega)
    rw [if_pos h1, if_pos h1, if_neg (show ¬ (1 : Int32) = 0 by decide), if_pos hi4, if_pos hik, ix_b1]
    simp only [hnq, hnk]
    rw [hit (i + k) (by omega), cz_isAct R, ix_b1]
    dsimp only
    by_cases h2 : sq_ac m (it (i + k))
    · rw [if_pos h2, if_neg (show ¬ (1 : Int32) = 0 by decide)]
      obtain ⟨s1, c1, c2, c3⟩ := cz_ac R ok h2
      rw [c1, ix_b1, F_X11_goAll_0_b83, ix_addL]
      dsimp only
      have e73 : s1.1 73 q = Int32.ofNat n := by rw [c3.1 73 rfl]; exact h73
      by_cases h3 : m 3 < m 2
      · rw [if_pos h3] at c2
        rw [if_pos h3, if_pos ⟨h2, h3⟩]
        obtain ⟨g1, -, -, -⟩ := sq_go_ok (a := (it (i + k)).toNatClampNeg) ok h3
        obtain ⟨s', i1, i2, i3⟩ := ih (k + 1) f s1 _ (w + (sq_go m (it (i + k)).toNatClampNeg).2) (by omega) (by omega) c2 g1 e73 (by rw [c3.2]; exact hit)
        exact ⟨s', i1, i2, c3.tr i3⟩
      · rw [if_neg h3] at c2
        rw [if_neg h3, if_neg (show ¬ (sq_ac m (it (i + k)) ∧ m 3 < m 2) from fun z => h3 z.2), if_neg (show ¬ (false = true) by decide), Int32.add_zero]
        obtain ⟨s', i1, i2, i3⟩ := ih (k + 1) f s1 m w (by omega) (by omega) c2 ok e73 (by rw [c3.2]; exact hit)
        exact ⟨s', i1, i2, c3.tr i3⟩
    · rw [if_neg h2, if_pos (show (0 : Int32) = 0 from rfl), if_neg (show ¬ (sq_ac m (it (i + k)) ∧ m 3 < m 2) from fun z => h2 z.1), if_neg (show ¬ (false = true) by decide), F_X11_goAll_0_b83, ix_addL]
      exact ih (k + 1) f s m w (by omega) (by omega) R ok h73 hit
theorem mz_gaL {q n i N : Nat} {it : Nat → Int32} {x4 : Int32} (hq : q < 4) (hn : n ≤ 40) (hi : i < 40) (hN : N ≤ 20) : ∀ (l k f : Nat) (s : am_S) (w : Int32), k + l = N → l < f → sq_Ok (s.1 83) → s.1 94 q = Int32.ofNat n → (∀ z, z < 40 → s.1 95 (40 * q + z) = it z) → ∃ s', F_X12_goAll_82_b33 f (Int32.ofNat q) (Int32.ofNat i) (Int32.ofNat N) x4 w (Int32.ofNat k) s = some ((sq_ga it n false l (i + k) (s.1 83) w).2, s') ∧ s'.1 83 = (sq_ga it n false l (i + k) (s.1 83) w).1 ∧ ix_Fr (fun q => q == 83 || q == 86) s s' := by
  have g0 : (40 : Int32) * Int32.ofNat q = Int32.ofNat (40 * q) := ix_Lmul q 40
  intro l
  induction l with
  | zero =>
    intro k f s w hl hf ok h94 hit
    obtain ⟨f, rfl⟩ : ∃ g, f = g + 1 := ⟨f - 1, by omega⟩
    refine ⟨s, ?_, rfl, ix_Fr.rf⟩
    rw [F_X12_goAll_82_b33, if_pos (by rw [ix_le (by omega) (by omega)]; omega)]
    rfl
  | succ l ih =>
    intro k f s w hl hf ok h94 hit
    obtain ⟨f, rfl⟩ : ∃ g, f = g + 1 := ⟨f - 1, by omega⟩
    rw [F_X12_goAll_82_b33, if_neg (by rw [ix_le (by omega) (by omega)]; omega), ix_64a (by omega), mz_isItem hq, h94, ix_iN (by omega) (by omega), ix_b1, sq_ga]
    dsimp only
    by_cases h1 : i + k < n
    rotate_left
    · rw [if_neg h1, if_neg h1, if_pos (show (0 : Int32) = 0 from rfl)]
      exact ⟨s, rfl, rfl, ix_Fr.rf⟩
    have hik : am_in (Int32.ofNat (40 * q + i + k)) 160 := (ix_in (by omega)).mpr (by omega)
    have hnk : (Int32.ofNat (40 * q + i + k)).toNatClampNeg = 40 * q + (i + k) := by rw [ix_nat (by omega)]; omega
    rw [if_pos h1, if_pos h1, if_neg (show ¬ (1 : Int32) = 0 by decide), g0, ix_add, ix_add, if_pos hik, hnk, hit (i + k) (by omega), ix_b1, mz_isAct, ix_b1]
    dsimp only
    by_cases h2 : sq_ac (s.1 83) (it (i + k)) ∧ s.1 83 3 < s.1 83 2
    · rw [if_pos h2, if_neg (show ¬ (1 : Int32) = 0 by decide), if_pos h2]
      obtain ⟨a, ha, ea⟩ := sq_acN ok h2.1
      have hc := (sq_cn_ok ok).1
      have ea2 : (it (i + k)).toNatClampNeg = a := by rw [ea, ix_nat (by omega)]
      obtain ⟨s1, c1, c2, c3⟩ := mz_goes ok (sq_lt16 ok h2.2) ha
      obtain ⟨g1, -, -, -⟩ := sq_go_ok (a := a) ok h2.2
      rw [← ea] at c1
      rw [c1, ix_b1, F_X12_goAll_82_b93, ix_addL, ea2]
      dsimp only
      obtain ⟨s', i1, i2, i3⟩ := ih (k + 1) f s1 (w + (sq_go (s.1 83) a).2) (by omega) (by omega) (by rw [c2]; exact g1) (by rw [c3.1 94 rfl]; exact h94) (by rw [c3.1 95 rfl]; exact hit)
      rw [c2] at i1 i2
      exact ⟨s', i1, i2, c3.tr i3⟩
    · rw [if_neg h2, if_pos (show (0 : Int32) = 0 from rfl), if_neg h2, if_neg (show ¬ (false = true) by decide), F_X12_goAll_82_b93, ix_addL, Int32.add_zero]
      exact ih (k + 1) f s w (by omega) (by omega) ok h94 hit
theorem cz_refusalActs {q : Nat} {c : Int32} {s : am_S} (hq : q < 4) : F_X11_refusalOfActs_0 (Int32.ofNat q) c s = some (if 0 ≤ c ∧ c ≤ 20 then (if s.1 72 q = -1 then -11 else if s.1 72 q = 0 then 0 else -13) else -1, s) := by
  have h1 : (0 : Int32) ≤ Int32.ofNat q ∧ Int32.ofNat q ≤ 3 := by
    rw [ix_Lle (by omega) (by omega), ix_leL (by omega) (by omega)]; omega
  unfold F_X11_refusalOfActs_0
  rw [cz_isSheet, ix_b1, ix_wi_p h1]
  dsimp only
  rw [if_neg (show ¬ (1 : Int32) = 0 by decide), ix_cw, ix_b1]
  dsimp only
  by_cases h : 0 ≤ c ∧ c ≤ 20
  · rw [ix_wi_p h, if_neg (show ¬ (1 : Int32) = 0 by decide), cz_refusalAs hq, ix_b1, if_pos h]
  · rw [ix_wi_n h, if_pos (show (0 : Int32) = 0 from rfl), if_neg h]
theorem cz_refusalActs0 {a c : Int32} {s : am_S} (h : ¬ ((0 : Int32) ≤ a ∧ a ≤ 3)) : F_X11_refusalOfActs_0 a c s = some (-1, s) := by
  unfold F_X11_refusalOfActs_0
  rw [cz_isSheet, ix_b1, ix_wi_n h]; rfl
theorem mz_isSpan {a c : Int32} {s : am_S} : F_X12_isSpan_82 a c s = some (if (0 ≤ a ∧ a ≤ 3) ∧ (0 ≤ c ∧ c ≤ 20) then 1 else 0, s) := by
  unfold F_X12_isSpan_82
  rw [mz_isOne, ix_b1]
  dsimp only
  by_cases h1 : (0 : Int32) ≤ a ∧ a ≤ 3
  · rw [ix_wi_p h1, if_neg (show ¬ (1 : Int32) = 0 by decide), mz_in0x20, ix_b1]
    dsimp only
    by_cases h : (0 : Int32) ≤ c ∧ c ≤ 20
    · rw [ix_wi_p h, if_neg (show ¬ (1 : Int32) = 0 by decide), if_pos ⟨h1, h⟩]
    · rw [ix_wi_n h, if_pos (show (0 : Int32) = 0 from rfl), if_neg (fun z => h z.2)]
  · rw [ix_wi_n h1, if_pos (show (0 : Int32) = 0 from rfl), if_neg (fun z => h1 z.1)]
theorem mz_isSpan1 {a c : Int32} {s : am_S} (h1 : 0 ≤ a ∧ a ≤ 3) (h2 : 0 ≤ c ∧ c ≤ 20) : F_X12_isSpan_82 a c s = some (1, s) := by rw [mz_isSpan, if_pos ⟨h1, h2⟩]
theorem mz_isSpan0 {a c : Int32} {s : am_S} (h : ¬ ((0 ≤ a ∧ a ≤ 3) ∧ (0 ≤ c ∧ c ≤ 20))) : F_X12_isSpan_82 a c s = some (0, s) := by rw [mz_isSpan, if_neg h]
theorem ag_goAll {a b c : Int32} : jz_A (F_X11_goAll_0 a b c) (F_X12_goAll_82 a b c) := by
  intro s j
  have z1 : ¬ (1 : Int32) = 0 := by decide
  by_cases h1 : (0 : Int32) ≤ a ∧ a ≤ 3
  rotate_left
  · refine jz_A0 (v := -1) j ?_ ?_
    · rw [F_X11_goAll_0, cz_refusalActs0 h1, ix_b1]; rfl
    · rw [F_X12_goAll_82, mz_isSpan0 (fun z => h1 z.1), ix_b1]; rfl
  obtain ⟨q, -, hq, rfl⟩ := ix_rng (a := 0) (b := 3) (by omega) (by omega) h1
  have hq4 : q < 4 := by omega
  by_cases h2 : (0 : Int32) ≤ c ∧ c ≤ 20
  rotate_left
  · refine jz_A0 (v := -1) j ?_ ?_
    · rw [F_X11_goAll_0, cz_refusalActs hq4, ix_b1, if_neg h2]; rfl
    · rw [F_X12_goAll_82, mz_isSpan0 (fun z => h2 z.2), ix_b1]; rfl
  obtain ⟨N, -, hN, rfl⟩ := ix_rng (a := 0) (b := 20) (by omega) (by omega) h2
  have hw := mz_whyNot (k := 0) j.2.2.2.2.1 hq4
  have hw2 := cz_refusalActs (c := Int32.ofNat N) (s := s) hq4
  rw [if_pos h2] at hw2
  obtain ⟨r, er⟩ : ∃ r : Int32, r = if s.1 72 q = -1 then -11 else if s.1 72 q = 0 then 0 else -13 := ⟨_, rfl⟩
  rw [← er] at hw hw2
  by_cases hr : r = 0
  rotate_left
  · refine jz_A0 (v := r) j ?_ ?_
    · rw [F_X11_goAll_0, hw2, ix_b1, if_neg hr]
    · rw [F_X12_goAll_82, mz_isSpan1 h1 h2, ix_b1]
      dsimp only
      rw [if_neg z1, hw, ix_b1, if_neg hr]
  obtain ⟨b1, b2, b3, ⟨n, hn40, e73⟩, b5⟩ := j.2.2.2.2.1 q hq4
  have e94 : s.1 94 q = Int32.ofNat n := by rw [← b3, e73]
  obtain ⟨ok, R⟩ := j.1
  have hC : ∀ res, F_X11_goAll_0_b22 1000 (Int32.ofNat q) b (Int32.ofNat N) 0 0 0 s = res → F_X11_goAll_0 (Int32.ofNat q) b (Int32.ofNat N) s = res := by
    intro res h
    rw [F_X11_goAll_0, hw2, ix_b1, hr]; exact h
  have hM : ∀ s1 res, s1.1 72 = s.1 72 → s1.1 93 = s.1 93 → F_X12_goAll_82_b33 1000 (Int32.ofNat q) b (Int32.ofNat N) 0 0 0 s1 = res → F_X12_whyNot_82 (Int32.ofNat q) 0 s1 = some (r, s1) → F_X12_goAll_82 (Int32.ofNat q) b (Int32.ofNat N) s1 = res := by
    intro s1 res _ _ h hwy
    rw [F_X12_goAll_82, mz_isSpan1 h1 h2, ix_b1]
    dsimp only
    rw [if_neg z1, hwy, ix_b1, hr]; exact h
  by_cases hN0 : N = 0
  · subst hN0
    refine jz_A0 (v := 0) j (hC _ ?_) (hM s _ rfl rfl ?_ hw)
    · rw [F_X11_goAll_0_b22, if_pos (by decide)]
    · rw [F_X12_goAll_82_b33, if_pos (by decide)]
  by_cases h3 : 0 ≤ b ∧ b ≤ Int32.ofNat n - 1
  rotate_left
  · have hle : ¬ Int32.ofNat N ≤ 0 := by rw [ix_leL (by omega) (by omega)]; omega
    have h64 : b.toInt64 + (0 : Int32).toInt64 = b.toInt64 := by
      have : (0 : Int32).toInt64 = 0 := rfl
      rw [this, Int64.add_zero]
    refine jz_A0 (v := -12) j (hC _ ?_) (hM s _ rfl rfl ?_ hw)
    · rw [F_X11_goAll_0_b22, if_neg hle, Int32.add_zero, cz_hasItem hq4, e73, ix_wi_n h3]; rfl
    · rw [F_X12_goAll_82_b33, if_neg hle, h64, mz_isItem hq4, e94, ix_wi_n h3]; rfl
  obtain ⟨i, hi, rfl⟩ := sq_itN (by omega) h3
  obtain ⟨s1, c1, c2, c3⟩ := cz_gaL (i := i) (it := fun z => s.1 95 (40 * q + z)) (x4 := 0) hq4 hn40 (by omega) hN N 0 1000 s (s.1 83) 0 (by omega) (by omega) R ok e73 b5
  have h83 : s1.1 83 = s.1 83 := c3.1 83 rfl
  obtain ⟨s2, d1, d2, d3⟩ := mz_gaL (i := i) (it := fun z => s.1 95 (40 * q + z)) (x4 := 0) hq4 hn40 (by omega) hN N 0 1000 s1 0 (by omega) (by omega) (by rw [h83]; exact ok) (by rw [c3.1 94 rfl]; exact e94) (by intro z _; rw [c3.1 95 rfl])
  rw [h83] at d1 d2
  refine ⟨_, s1, s2, hC _ c1, hM s1 _ (c3.1 72 rfl) (c3.1 93 rfl) d1 ?_, jz_cm j c2 (c3.wd (fun k hk => by unfold sq_pC at hk; simp at hk ⊢; omega)) (d3.wd (fun k hk => by unfold sq_pM at hk; simp at hk ⊢; omega)) d2 (sq_ga_ok N (i + 0) (s.1 83) 0 ok).1⟩
  have jH : jz_H s1 := jz_H_fr (fun k q h => by rw [c3.1 k (by simp; omega)]) c3.2 j.2.2.2.2.1
  have := mz_whyNot (k := 0) jH hq4
  rw [c3.1 72 rfl] at this
  rw [this, ← er]
