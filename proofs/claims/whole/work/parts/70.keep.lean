/-! LAYER 2: keep, again agree (written by wip/whole/l2/gen70.py) -/
theorem sq_rn_8 {m : Nat → Int32} (ok : sq_Ok m) : sq_rn m ≤ 8 := by
  obtain ⟨n, h1, h2⟩ := ok.2.2.2.2.2.2.2.1
  unfold sq_rn; rw [h2, ix_nat (by omega)]; exact h1
theorem sq_en_rn {m : Nat → Int32} (ok : sq_Ok m) : sq_en m (sq_rn m) ≤ 200 := by
  have h8 := sq_rn_8 ok
  by_cases h0 : sq_rn m = 0
  · rw [h0]; unfold sq_en; simp
  · obtain ⟨n, h1, h2⟩ := (ok.2.2.2.2.2.2.2.2 (sq_rn m - 1) (by omega)).2.2.1
    have e : sq_rn m - 1 + 1 = sq_rn m := by omega
    have : sq_en m (sq_rn m) = n := by
      rw [← e]; unfold sq_en; simp only [Nat.add_one_ne_zero, if_false, Nat.add_sub_cancel]
      rw [h2, ix_nat (by omega)]
    omega
theorem cz_bl7_33_17 {s : am_S} {n : Nat} (hn : n ≤ 200) (h : s.1 17 1 = Int32.ofNat n) : ∃ t, F_X7_becomeLike_33_17 s = some t ∧ (∀ i, i < 2 → t.1 33 i = s.1 17 i) ∧ (∀ k, 1 ≤ k → k < 5 → ∀ r, r < 8 → t.1 (33 + k) r = s.1 (17 + k) r) ∧ (∀ k, k < n → t.1 (33 + 5) k = s.1 (17 + 5) k) ∧ ix_Fr (fun k => decide (33 ≤ k) && decide (k < 39)) s t := by
  have c8 : ¬ (0 : Int32) < 0 ∧ ¬ (0 : Int32) < 0 ∧ ¬ (8 : Int32) < 0 ∧ (0 : Int32).toNatClampNeg + (8 : Int32).toNatClampNeg ≤ 8 ∧ (0 : Int32).toNatClampNeg + (8 : Int32).toNatClampNeg ≤ 8 := by decide
  have n0 : (0 : Int32).toNatClampNeg = 0 := rfl
  have n8 : (8 : Int32).toNatClampNeg = 8 := rfl
  have nn : (Int32.ofNat n).toNatClampNeg = n := ix_nat (by omega)
  obtain ⟨t1, e1⟩ : ∃ t1, t1 = am_sI s 33 0 (s.1 17 0) := ⟨_, rfl⟩
  obtain ⟨t2, e2⟩ : ∃ t2, t2 = am_sI t1 33 1 (t1.1 17 1) := ⟨_, rfl⟩
  obtain ⟨t3, e3⟩ : ∃ t3, t3 = am_sC t2 18 34 (0 : Int32).toNatClampNeg (0 : Int32).toNatClampNeg (8 : Int32).toNatClampNeg := ⟨_, rfl⟩
  have e3p : t3 = am_sC t2 18 34 0 0 8 := by rw [e3, n0, n8]
  obtain ⟨t4, e4⟩ : ∃ t4, t4 = am_sC t3 19 35 (0 : Int32).toNatClampNeg (0 : Int32).toNatClampNeg (8 : Int32).toNatClampNeg := ⟨_, rfl⟩
  have e4p : t4 = am_sC t3 19 35 0 0 8 := by rw [e4, n0, n8]
  obtain ⟨t5, e5⟩ : ∃ t5, t5 = am_sC t4 20 36 (0 : Int32).toNatClampNeg (0 : Int32).toNatClampNeg (8 : Int32).toNatClampNeg := ⟨_, rfl⟩
  have e5p : t5 = am_sC t4 20 36 0 0 8 := by rw [e5, n0, n8]
  obtain ⟨t6, e6⟩ : ∃ t6, t6 = am_sC t5 21 37 (0 : Int32).toNatClampNeg (0 : Int32).toNatClampNeg (8 : Int32).toNatClampNeg := ⟨_, rfl⟩
  have e6p : t6 = am_sC t5 21 37 0 0 8 := by rw [e6, n0, n8]
  obtain ⟨t7, e7⟩ : ∃ t7, t7 = am_sC t6 22 38 (0 : Int32).toNatClampNeg (0 : Int32).toNatClampNeg (t6.1 17 1).toNatClampNeg := ⟨_, rfl⟩
  have f1 : ∀ z, z ≠ 33 → t1.1 z = s.1 z := fun z hz => by rw [e1]; exact ix_sIn hz
  have f2 : ∀ z, z ≠ 33 → t2.1 z = t1.1 z := fun z hz => by rw [e2]; exact ix_sIn hz
  have f3 : ∀ z, z ≠ 34 → t3.1 z = t2.1 z := fun z hz => by rw [e3]; exact ix_sCn hz
  have f4 : ∀ z, z ≠ 35 → t4.1 z = t3.1 z := fun z hz => by rw [e4]; exact ix_sCn hz
  have f5 : ∀ z, z ≠ 36 → t5.1 z = t4.1 z := fun z hz => by rw [e5]; exact ix_sCn hz
  have f6 : ∀ z, z ≠ 37 → t6.1 z = t5.1 z := fun z hz => by rw [e6]; exact ix_sCn hz
  have f7 : ∀ z, z ≠ 38 → t7.1 z = t6.1 z := fun z hz => by rw [e7]; exact ix_sCn hz
  have e6c : t6.1 17 1 = Int32.ofNat n := by rw [f6 17 (by decide), f5 17 (by decide), f4 17 (by decide), f3 17 (by decide), f2 17 (by decide), f1 17 (by decide)]; exact h
  have e7p : t7 = am_sC t6 22 38 0 0 n := by rw [e7, n0, e6c, nn]
  have cn : ¬ (0 : Int32) < 0 ∧ ¬ (0 : Int32) < 0 ∧ ¬ (t6.1 17 1) < 0 ∧ (0 : Int32).toNatClampNeg + (t6.1 17 1).toNatClampNeg ≤ 200 ∧ (0 : Int32).toNatClampNeg + (t6.1 17 1).toNatClampNeg ≤ 200 := by
    rw [e6c, nn, n0]
    exact ⟨by decide, by decide, ix_nn (by omega), by omega, by omega⟩
  have hF : F_X7_becomeLike_33_17 s = some t7 := by
    rw [F_X7_becomeLike_33_17, ix_b1, ← e1, ix_b1, ← e2, if_pos c8, ix_b1, ← e3, if_pos c8, ix_b1, ← e4, if_pos c8, ix_b1, ← e5, if_pos c8, ix_b1, ← e6, if_pos cn, ix_b1, ← e7]
  refine ⟨t7, hF, fun i hi => ?_, fun k h1 h2 r hr => ?_, fun k hk => ?_, ⟨fun z hz => ?_, ?_⟩⟩
  · rw [f7 33 (by decide), f6 33 (by decide), f5 33 (by decide), f4 33 (by decide), f3 33 (by decide)]
    have h2 : i = 0 ∨ i = 1 := by omega
    rcases h2 with rfl | rfl
    · rw [e2, ix_sIj (by decide), e1, ix_sIs]
    · rw [e2, ix_sIs, f1 17 (by decide)]
  · have h4 : k = 1 ∨ k = 2 ∨ k = 3 ∨ k = 4 := by omega
    rcases h4 with rfl | rfl | rfl | rfl
    · show t7.1 34 r = s.1 18 r
      rw [f7 34 (by decide), f6 34 (by decide), f5 34 (by decide), f4 34 (by decide), e3p, ix_sC, if_pos ⟨rfl, Nat.zero_le _, by omega⟩, Nat.sub_zero, Nat.zero_add, f2 18 (by decide), f1 18 (by decide)]
    · show t7.1 35 r = s.1 19 r
      rw [f7 35 (by decide), f6 35 (by decide), f5 35 (by decide), e4p, ix_sC, if_pos ⟨rfl, Nat.zero_le _, by omega⟩, Nat.sub_zero, Nat.zero_add, f3 19 (by decide), f2 19 (by decide), f1 19 (by decide)]
    · show t7.1 36 r = s.1 20 r
      rw [f7 36 (by decide), f6 36 (by decide), e5p, ix_sC, if_pos ⟨rfl, Nat.zero_le _, by omega⟩, Nat.sub_zero, Nat.zero_add, f4 20 (by decide), f3 20 (by decide), f2 20 (by decide), f1 20 (by decide)]
    · show t7.1 37 r = s.1 21 r
      rw [f7 37 (by decide), e6p, ix_sC, if_pos ⟨rfl, Nat.zero_le _, by omega⟩, Nat.sub_zero, Nat.zero_add, f5 21 (by decide), f4 21 (by decide), f3 21 (by decide), f2 21 (by decide), f1 21 (by decide)]
  · show t7.1 38 k = s.1 22 k
    rw [e7p, ix_sC, if_pos ⟨rfl, Nat.zero_le _, by omega⟩, Nat.sub_zero, Nat.zero_add, f6 22 (by decide), f5 22 (by decide), f4 22 (by decide), f3 22 (by decide), f2 22 (by decide), f1 22 (by decide)]
  · have hz' : ¬ (33 ≤ z ∧ z < 39) := by simpa using hz
    rw [f7 z (by omega), f6 z (by omega), f5 z (by omega), f4 z (by omega), f3 z (by omega), f2 z (by omega), f1 z (by omega)]
  · rw [e7, e6, e5, e4, e3, e2, e1]; rfl
theorem cz_bl7_17_33 {s : am_S} {n : Nat} (hn : n ≤ 200) (h : s.1 33 1 = Int32.ofNat n) : ∃ t, F_X7_becomeLike_17_33 s = some t ∧ (∀ i, i < 2 → t.1 17 i = s.1 33 i) ∧ (∀ k, 1 ≤ k → k < 5 → ∀ r, r < 8 → t.1 (17 + k) r = s.1 (33 + k) r) ∧ (∀ k, k < n → t.1 (17 + 5) k = s.1 (33 + 5) k) ∧ ix_Fr (fun k => decide (17 ≤ k) && decide (k < 23)) s t := by
  have c8 : ¬ (0 : Int32) < 0 ∧ ¬ (0 : Int32) < 0 ∧ ¬ (8 : Int32) < 0 ∧ (0 : Int32).toNatClampNeg + (8 : Int32).toNatClampNeg ≤ 8 ∧ (0 : Int32).toNatClampNeg + (8 : Int32).toNatClampNeg ≤ 8 := by decide
  have n0 : (0 : Int32).toNatClampNeg = 0 := rfl
  have n8 : (8 : Int32).toNatClampNeg = 8 := rfl
  have nn : (Int32.ofNat n).toNatClampNeg = n := ix_nat (by omega)
  obtain ⟨t1, e1⟩ : ∃ t1, t1 = am_sI s 17 0 (s.1 33 0) := ⟨_, rfl⟩
  obtain ⟨t2, e2⟩ : ∃ t2, t2 = am_sI t1 17 1 (t1.1 33 1) := ⟨_, rfl⟩
  obtain ⟨t3, e3⟩ : ∃ t3, t3 = am_sC t2 34 18 (0 : Int32).toNatClampNeg (0 : Int32).toNatClampNeg (8 : Int32).toNatClampNeg := ⟨_, rfl⟩
  have e3p : t3 = am_sC t2 34 18 0 0 8 := by rw [e3, n0, n8]
  obtain ⟨t4, e4⟩ : ∃ t4, t4 = am_sC t3 35 19 (0 : Int32).toNatClampNeg (0 : Int32).toNatClampNeg (8 : Int32).toNatClampNeg := ⟨_, rfl⟩
  have e4p : t4 = am_sC t3 35 19 0 0 8 := by rw [e4, n0, n8]
  obtain ⟨t5, e5⟩ : ∃ t5, t5 = am_sC t4 36 20 (0 : Int32).toNatClampNeg (0 : Int32).toNatClampNeg (8 : Int32).toNatClampNeg := ⟨_, rfl⟩
  have e5p : t5 = am_sC t4 36 20 0 0 8 := by rw [e5, n0, n8]
  obtain ⟨t6, e6⟩ : ∃ t6, t6 = am_sC t5 37 21 (0 : Int32).toNatClampNeg (0 : Int32).toNatClampNeg (8 : Int32).toNatClampNeg := ⟨_, rfl⟩
  have e6p : t6 = am_sC t5 37 21 0 0 8 := by rw [e6, n0, n8]
  obtain ⟨t7, e7⟩ : ∃ t7, t7 = am_sC t6 38 22 (0 : Int32).toNatClampNeg (0 : Int32).toNatClampNeg (t6.1 33 1).toNatClampNeg := ⟨_, rfl⟩
  have f1 : ∀ z, z ≠ 17 → t1.1 z = s.1 z := fun z hz => by rw [e1]; exact ix_sIn hz
  have f2 : ∀ z, z ≠ 17 → t2.1 z = t1.1 z := fun z hz => by rw [e2]; exact ix_sIn hz
  have f3 : ∀ z, z ≠ 18 → t3.1 z = t2.1 z := fun z hz => by rw [e3]; exact ix_sCn hz
  have f4 : ∀ z, z ≠ 19 → t4.1 z = t3.1 z := fun z hz => by rw [e4]; exact ix_sCn hz
  have f5 : ∀ z, z ≠ 20 → t5.1 z = t4.1 z := fun z hz => by rw [e5]; exact ix_sCn hz
  have f6 : ∀ z, z ≠ 21 → t6.1 z = t5.1 z := fun z hz => by rw [e6]; exact ix_sCn hz
  have f7 : ∀ z, z ≠ 22 → t7.1 z = t6.1 z := fun z hz => by rw [e7]; exact ix_sCn hz
  have e6c : t6.1 33 1 = Int32.ofNat n := by rw [f6 33 (by decide), f5 33 (by decide), f4 33 (by decide), f3 33 (by decide), f2 33 (by decide), f1 33 (by decide)]; exact h
  have e7p : t7 = am_sC t6 38 22 0 0 n := by rw [e7, n0, e6c, nn]
  have cn : ¬ (0 : Int32) < 0 ∧ ¬ (0 : Int32) < 0 ∧ ¬ (t6.1 33 1) < 0 ∧ (0 : Int32).toNatClampNeg + (t6.1 33 1).toNatClampNeg ≤ 200 ∧ (0 : Int32).toNatClampNeg + (t6.1 33 1).toNatClampNeg ≤ 200 := by
    rw [e6c, nn, n0]
    exact ⟨by decide, by decide, ix_nn (by omega), by omega, by omega⟩
  have hF : F_X7_becomeLike_17_33 s = some t7 := by
    rw [F_X7_becomeLike_17_33, ix_b1, ← e1, ix_b1, ← e2, if_pos c8, ix_b1, ← e3, if_pos c8, ix_b1, ← e4, if_pos c8, ix_b1, ← e5, if_pos c8, ix_b1, ← e6, if_pos cn, ix_b1, ← e7]
  refine ⟨t7, hF, fun i hi => ?_, fun k h1 h2 r hr => ?_, fun k hk => ?_, ⟨fun z hz => ?_, ?_⟩⟩
  · rw [f7 17 (by decide), f6 17 (by decide), f5 17 (by decide), f4 17 (by decide), f3 17 (by decide)]
    have h2 : i = 0 ∨ i = 1 := by omega
    rcases h2 with rfl | rfl
    · rw [e2, ix_sIj (by decide), e1, ix_sIs]
    · rw [e2, ix_sIs, f1 33 (by decide)]
  · have h4 : k = 1 ∨ k = 2 ∨ k = 3 ∨ k = 4 := by omega
    rcases h4 with rfl | rfl | rfl | rfl
    · show t7.1 18 r = s.1 34 r
      rw [f7 18 (by decide), f6 18 (by decide), f5 18 (by decide), f4 18 (by decide), e3p, ix_sC, if_pos ⟨rfl, Nat.zero_le _, by omega⟩, Nat.sub_zero, Nat.zero_add, f2 34 (by decide), f1 34 (by decide)]
    · show t7.1 19 r = s.1 35 r
      rw [f7 19 (by decide), f6 19 (by decide), f5 19 (by decide), e4p, ix_sC, if_pos ⟨rfl, Nat.zero_le _, by omega⟩, Nat.sub_zero, Nat.zero_add, f3 35 (by decide), f2 35 (by decide), f1 35 (by decide)]
    · show t7.1 20 r = s.1 36 r
      rw [f7 20 (by decide), f6 20 (by decide), e5p, ix_sC, if_pos ⟨rfl, Nat.zero_le _, by omega⟩, Nat.sub_zero, Nat.zero_add, f4 36 (by decide), f3 36 (by decide), f2 36 (by decide), f1 36 (by decide)]
    · show t7.1 21 r = s.1 37 r
      rw [f7 21 (by decide), e6p, ix_sC, if_pos ⟨rfl, Nat.zero_le _, by omega⟩, Nat.sub_zero, Nat.zero_add, f5 37 (by decide), f4 37 (by decide), f3 37 (by decide), f2 37 (by decide), f1 37 (by decide)]
  · show t7.1 22 k = s.1 38 k
    rw [e7p, ix_sC, if_pos ⟨rfl, Nat.zero_le _, by omega⟩, Nat.sub_zero, Nat.zero_add, f6 38 (by decide), f5 38 (by decide), f4 38 (by decide), f3 38 (by decide), f2 38 (by decide), f1 38 (by decide)]
  · have hz' : ¬ (17 ≤ z ∧ z < 23) := by simpa using hz
    rw [f7 z (by omega), f6 z (by omega), f5 z (by omega), f4 z (by omega), f3 z (by omega), f2 z (by omega), f1 z (by omega)]
  · rw [e7, e6, e5, e4, e3, e2, e1]; rfl
theorem cz_bl7_17_44 {s : am_S} {n : Nat} (hn : n ≤ 200) (h : s.1 44 1 = Int32.ofNat n) : ∃ t, F_X7_becomeLike_17_44 s = some t ∧ (∀ i, i < 2 → t.1 17 i = s.1 44 i) ∧ (∀ k, 1 ≤ k → k < 5 → ∀ r, r < 8 → t.1 (17 + k) r = s.1 (44 + k) r) ∧ (∀ k, k < n → t.1 (17 + 5) k = s.1 (44 + 5) k) ∧ ix_Fr (fun k => decide (17 ≤ k) && decide (k < 23)) s t := by
  have c8 : ¬ (0 : Int32) < 0 ∧ ¬ (0 : Int32) < 0 ∧ ¬ (8 : Int32) < 0 ∧ (0 : Int32).toNatClampNeg + (8 : Int32).toNatClampNeg ≤ 8 ∧ (0 : Int32).toNatClampNeg + (8 : Int32).toNatClampNeg ≤ 8 := by decide
  have n0 : (0 : Int32).toNatClampNeg = 0 := rfl
  have n8 : (8 : Int32).toNatClampNeg = 8 := rfl
  have nn : (Int32.ofNat n).toNatClampNeg = n := ix_nat (by omega)
  obtain ⟨t1, e1⟩ : ∃ t1, t1 = am_sI s 17 0 (s.1 44 0) := ⟨_, rfl⟩
  obtain ⟨t2, e2⟩ : ∃ t2, t2 = am_sI t1 17 1 (t1.1 44 1) := ⟨_, rfl⟩
  obtain ⟨t3, e3⟩ : ∃ t3, t3 = am_sC t2 45 18 (0 : Int32).toNatClampNeg (0 : Int32).toNatClampNeg (8 : Int32).toNatClampNeg := ⟨_, rfl⟩
  have e3p : t3 = am_sC t2 45 18 0 0 8 := by rw [e3, n0, n8]
  obtain ⟨t4, e4⟩ : ∃ t4, t4 = am_sC t3 46 19 (0 : Int32).toNatClampNeg (0 : Int32).toNatClampNeg (8 : Int32).toNatClampNeg := ⟨_, rfl⟩
  have e4p : t4 = am_sC t3 46 19 0 0 8 := by rw [e4, n0, n8]
  obtain ⟨t5, e5⟩ : ∃ t5, t5 = am_sC t4 47 20 (0 : Int32).toNatClampNeg (0 : Int32).toNatClampNeg (8 : Int32).toNatClampNeg := ⟨_, rfl⟩
  have e5p : t5 = am_sC t4 47 20 0 0 8 := by rw [e5, n0, n8]
  obtain ⟨t6, e6⟩ : ∃ t6, t6 = am_sC t5 48 21 (0 : Int32).toNatClampNeg (0 : Int32).toNatClampNeg (8 : Int32).toNatClampNeg := ⟨_, rfl⟩
  have e6p : t6 = am_sC t5 48 21 0 0 8 := by rw [e6, n0, n8]
  obtain ⟨t7, e7⟩ : ∃ t7, t7 = am_sC t6 49 22 (0 : Int32).toNatClampNeg (0 : Int32).toNatClampNeg (t6.1 44 1).toNatClampNeg := ⟨_, rfl⟩
  have f1 : ∀ z, z ≠ 17 → t1.1 z = s.1 z := fun z hz => by rw [e1]; exact ix_sIn hz
  have f2 : ∀ z, z ≠ 17 → t2.1 z = t1.1 z := fun z hz => by rw [e2]; exact ix_sIn hz
  have f3 : ∀ z, z ≠ 18 → t3.1 z = t2.1 z := fun z hz => by rw [e3]; exact ix_sCn hz
  have f4 : ∀ z, z ≠ 19 → t4.1 z = t3.1 z := fun z hz => by rw [e4]; exact ix_sCn hz
  have f5 : ∀ z, z ≠ 20 → t5.1 z = t4.1 z := fun z hz => by rw [e5]; exact ix_sCn hz
  have f6 : ∀ z, z ≠ 21 → t6.1 z = t5.1 z := fun z hz => by rw [e6]; exact ix_sCn hz
  have f7 : ∀ z, z ≠ 22 → t7.1 z = t6.1 z := fun z hz => by rw [e7]; exact ix_sCn hz
  have e6c : t6.1 44 1 = Int32.ofNat n := by rw [f6 44 (by decide), f5 44 (by decide), f4 44 (by decide), f3 44 (by decide), f2 44 (by decide), f1 44 (by decide)]; exact h
  have e7p : t7 = am_sC t6 49 22 0 0 n := by rw [e7, n0, e6c, nn]
  have cn : ¬ (0 : Int32) < 0 ∧ ¬ (0 : Int32) < 0 ∧ ¬ (t6.1 44 1) < 0 ∧ (0 : Int32).toNatClampNeg + (t6.1 44 1).toNatClampNeg ≤ 200 ∧ (0 : Int32).toNatClampNeg + (t6.1 44 1).toNatClampNeg ≤ 200 := by
    rw [e6c, nn, n0]
    exact ⟨by decide, by decide, ix_nn (by omega), by omega, by omega⟩
  have hF : F_X7_becomeLike_17_44 s = some t7 := by
    rw [F_X7_becomeLike_17_44, ix_b1, ← e1, ix_b1, ← e2, if_pos c8, ix_b1, ← e3, if_pos c8, ix_b1, ← e4, if_pos c8, ix_b1, ← e5, if_pos c8, ix_b1, ← e6, if_pos cn, ix_b1, ← e7]
  refine ⟨t7, hF, fun i hi => ?_, fun k h1 h2 r hr => ?_, fun k hk => ?_, ⟨fun z hz => ?_, ?_⟩⟩
  · rw [f7 17 (by decide), f6 17 (by decide), f5 17 (by decide), f4 17 (by decide), f3 17 (by decide)]
    have h2 : i = 0 ∨ i = 1 := by omega
    rcases h2 with rfl | rfl
    · rw [e2, ix_sIj (by decide), e1, ix_sIs]
    · rw [e2, ix_sIs, f1 44 (by decide)]
  · have h4 : k = 1 ∨ k = 2 ∨ k = 3 ∨ k = 4 := by omega
    rcases h4 with rfl | rfl | rfl | rfl
    · show t7.1 18 r = s.1 45 r
      rw [f7 18 (by decide), f6 18 (by decide), f5 18 (by decide), f4 18 (by decide), e3p, ix_sC, if_pos ⟨rfl, Nat.zero_le _, by omega⟩, Nat.sub_zero, Nat.zero_add, f2 45 (by decide), f1 45 (by decide)]
    · show t7.1 19 r = s.1 46 r
      rw [f7 19 (by decide), f6 19 (by decide), f5 19 (by decide), e4p, ix_sC, if_pos ⟨rfl, Nat.zero_le _, by omega⟩, Nat.sub_zero, Nat.zero_add, f3 46 (by decide), f2 46 (by decide), f1 46 (by decide)]
    · show t7.1 20 r = s.1 47 r
      rw [f7 20 (by decide), f6 20 (by decide), e5p, ix_sC, if_pos ⟨rfl, Nat.zero_le _, by omega⟩, Nat.sub_zero, Nat.zero_add, f4 47 (by decide), f3 47 (by decide), f2 47 (by decide), f1 47 (by decide)]
    · show t7.1 21 r = s.1 48 r
      rw [f7 21 (by decide), e6p, ix_sC, if_pos ⟨rfl, Nat.zero_le _, by omega⟩, Nat.sub_zero, Nat.zero_add, f5 48 (by decide), f4 48 (by decide), f3 48 (by decide), f2 48 (by decide), f1 48 (by decide)]
  · show t7.1 22 k = s.1 49 k
    rw [e7p, ix_sC, if_pos ⟨rfl, Nat.zero_le _, by omega⟩, Nat.sub_zero, Nat.zero_add, f6 49 (by decide), f5 49 (by decide), f4 49 (by decide), f3 49 (by decide), f2 49 (by decide), f1 49 (by decide)]
  · have hz' : ¬ (17 ≤ z ∧ z < 23) := by simpa using hz
    rw [f7 z (by omega), f6 z (by omega), f5 z (by omega), f4 z (by omega), f3 z (by omega), f2 z (by omega), f1 z (by omega)]
  · rw [e7, e6, e5, e4, e3, e2, e1]; rfl
theorem cz_bl8_24_8 {s : am_S} {m : Nat → Int32} (R : sq_R s.1 8 m) (ok : sq_Ok m) : ∃ t, F_X8_becomeLike_24_8 s = some t ∧ sq_R t.1 24 m ∧ ix_Fr (fun k => decide (24 ≤ k) && decide (k < 39)) s t := by
  have c16 : ¬ (0 : Int32) < 0 ∧ ¬ (0 : Int32) < 0 ∧ ¬ (16 : Int32) < 0 ∧ (0 : Int32).toNatClampNeg + (16 : Int32).toNatClampNeg ≤ 16 ∧ (0 : Int32).toNatClampNeg + (16 : Int32).toNatClampNeg ≤ 16 := by decide
  have c6 : ¬ (0 : Int32) < 0 ∧ ¬ (0 : Int32) < 0 ∧ ¬ (6 : Int32) < 0 ∧ (0 : Int32).toNatClampNeg + (6 : Int32).toNatClampNeg ≤ 6 ∧ (0 : Int32).toNatClampNeg + (6 : Int32).toNatClampNeg ≤ 6 := by decide
  have n0 : (0 : Int32).toNatClampNeg = 0 := rfl
  have n6 : (6 : Int32).toNatClampNeg = 6 := rfl
  have n16 : (16 : Int32).toNatClampNeg = 16 := rfl
  obtain ⟨t1, e1⟩ : ∃ t1, t1 = am_sI s 24 0 (s.1 8 0) := ⟨_, rfl⟩
  obtain ⟨t2, e2⟩ : ∃ t2, t2 = am_sI t1 24 1 (t1.1 8 1) := ⟨_, rfl⟩
  obtain ⟨t3, e3⟩ : ∃ t3, t3 = am_sI t2 24 2 (t2.1 8 2) := ⟨_, rfl⟩
  obtain ⟨t4, e4⟩ : ∃ t4, t4 = am_sI t3 24 3 (t3.1 8 3) := ⟨_, rfl⟩
  obtain ⟨t5, e5⟩ : ∃ t5, t5 = am_sI t4 24 4 (t4.1 8 4) := ⟨_, rfl⟩
  obtain ⟨t6, e6⟩ : ∃ t6, t6 = am_sI t5 24 5 (t5.1 8 5) := ⟨_, rfl⟩
  obtain ⟨t7, e7⟩ : ∃ t7, t7 = am_sI t6 24 6 (t6.1 8 6) := ⟨_, rfl⟩
  obtain ⟨t8, e8⟩ : ∃ t8, t8 = am_sI t7 24 7 (t7.1 8 7) := ⟨_, rfl⟩
  obtain ⟨t9, e9⟩ : ∃ t9, t9 = am_sC t8 9 25 (0 : Int32).toNatClampNeg (0 : Int32).toNatClampNeg (16 : Int32).toNatClampNeg := ⟨_, rfl⟩
  have e9p : t9 = am_sC t8 9 25 0 0 16 := by rw [e9, n0, n16]
  obtain ⟨t10, e10⟩ : ∃ t10, t10 = am_sC t9 10 26 (0 : Int32).toNatClampNeg (0 : Int32).toNatClampNeg (6 : Int32).toNatClampNeg := ⟨_, rfl⟩
  have e10p : t10 = am_sC t9 10 26 0 0 6 := by rw [e10, n0, n6]
  obtain ⟨t11, e11⟩ : ∃ t11, t11 = am_sC t10 11 27 (0 : Int32).toNatClampNeg (0 : Int32).toNatClampNeg (6 : Int32).toNatClampNeg := ⟨_, rfl⟩
  have e11p : t11 = am_sC t10 11 27 0 0 6 := by rw [e11, n0, n6]
  obtain ⟨t12, e12⟩ : ∃ t12, t12 = am_sC t11 12 28 (0 : Int32).toNatClampNeg (0 : Int32).toNatClampNeg (6 : Int32).toNatClampNeg := ⟨_, rfl⟩
  have e12p : t12 = am_sC t11 12 28 0 0 6 := by rw [e12, n0, n6]
  obtain ⟨t13, e13⟩ : ∃ t13, t13 = am_sC t12 13 29 (0 : Int32).toNatClampNeg (0 : Int32).toNatClampNeg (6 : Int32).toNatClampNeg := ⟨_, rfl⟩
  have e13p : t13 = am_sC t12 13 29 0 0 6 := by rw [e13, n0, n6]
  obtain ⟨t14, e14⟩ : ∃ t14, t14 = am_sC t13 14 30 (0 : Int32).toNatClampNeg (0 : Int32).toNatClampNeg (6 : Int32).toNatClampNeg := ⟨_, rfl⟩
  have e14p : t14 = am_sC t13 14 30 0 0 6 := by rw [e14, n0, n6]
  obtain ⟨t15, e15⟩ : ∃ t15, t15 = am_sC t14 15 31 (0 : Int32).toNatClampNeg (0 : Int32).toNatClampNeg (6 : Int32).toNatClampNeg := ⟨_, rfl⟩
  have e15p : t15 = am_sC t14 15 31 0 0 6 := by rw [e15, n0, n6]
  obtain ⟨t16, e16⟩ : ∃ t16, t16 = am_sC t15 16 32 (0 : Int32).toNatClampNeg (0 : Int32).toNatClampNeg (6 : Int32).toNatClampNeg := ⟨_, rfl⟩
  have e16p : t16 = am_sC t15 16 32 0 0 6 := by rw [e16, n0, n6]
  have f1 : ∀ z, z ≠ 24 → t1.1 z = s.1 z := fun z hz => by rw [e1]; exact ix_sIn hz
  have f2 : ∀ z, z ≠ 24 → t2.1 z = t1.1 z := fun z hz => by rw [e2]; exact ix_sIn hz
  have f3 : ∀ z, z ≠ 24 → t3.1 z = t2.1 z := fun z hz => by rw [e3]; exact ix_sIn hz
  have f4 : ∀ z, z ≠ 24 → t4.1 z = t3.1 z := fun z hz => by rw [e4]; exact ix_sIn hz
  have f5 : ∀ z, z ≠ 24 → t5.1 z = t4.1 z := fun z hz => by rw [e5]; exact ix_sIn hz
  have f6 : ∀ z, z ≠ 24 → t6.1 z = t5.1 z := fun z hz => by rw [e6]; exact ix_sIn hz
  have f7 : ∀ z, z ≠ 24 → t7.1 z = t6.1 z := fun z hz => by rw [e7]; exact ix_sIn hz
  have f8 : ∀ z, z ≠ 24 → t8.1 z = t7.1 z := fun z hz => by rw [e8]; exact ix_sIn hz
  have f9 : ∀ z, z ≠ 25 → t9.1 z = t8.1 z := fun z hz => by rw [e9]; exact ix_sCn hz
  have f10 : ∀ z, z ≠ 26 → t10.1 z = t9.1 z := fun z hz => by rw [e10]; exact ix_sCn hz
  have f11 : ∀ z, z ≠ 27 → t11.1 z = t10.1 z := fun z hz => by rw [e11]; exact ix_sCn hz
  have f12 : ∀ z, z ≠ 28 → t12.1 z = t11.1 z := fun z hz => by rw [e12]; exact ix_sCn hz
  have f13 : ∀ z, z ≠ 29 → t13.1 z = t12.1 z := fun z hz => by rw [e13]; exact ix_sCn hz
  have f14 : ∀ z, z ≠ 30 → t14.1 z = t13.1 z := fun z hz => by rw [e14]; exact ix_sCn hz
  have f15 : ∀ z, z ≠ 31 → t15.1 z = t14.1 z := fun z hz => by rw [e15]; exact ix_sCn hz
  have f16 : ∀ z, z ≠ 32 → t16.1 z = t15.1 z := fun z hz => by rw [e16]; exact ix_sCn hz
  have f0 : ∀ z, z < 24 ∨ 33 ≤ z → t16.1 z = s.1 z := fun z hz => by
    rw [f16 z (by omega), f15 z (by omega), f14 z (by omega), f13 z (by omega), f12 z (by omega), f11 z (by omega), f10 z (by omega), f9 z (by omega), f8 z (by omega), f7 z (by omega), f6 z (by omega), f5 z (by omega), f4 z (by omega), f3 z (by omega), f2 z (by omega), f1 z (by omega)]
  obtain ⟨-, -, -, -, -, -, -, hR⟩ := id ok
  obtain ⟨r0, r1, r2, r3⟩ := R.2.2.2.2.2.2.2.2.2.2.2
  have hen := sq_en_rn ok
  obtain ⟨t, h1, h2, h3, h4, h5⟩ := cz_bl7_33_17 (s := t16) (n := sq_en m (sq_rn m)) hen (by rw [f0 17 (by omega)]; exact r1)
  have g5 : ∀ z, z < 33 ∨ 39 ≤ z → t.1 z = t16.1 z := fun z hz => h5.1 z (by simp; omega)
  have hF : F_X8_becomeLike_24_8 s = some t := by
    rw [F_X8_becomeLike_24_8, ix_b1, ← e1, ix_b1, ← e2, ix_b1, ← e3, ix_b1, ← e4, ix_b1, ← e5, ix_b1, ← e6, ix_b1, ← e7, ix_b1, ← e8, if_pos c16, ix_b1, ← e9, if_pos c6, ix_b1, ← e10, if_pos c6, ix_b1, ← e11, if_pos c6, ix_b1, ← e12, if_pos c6, ix_b1, ← e13, if_pos c6, ix_b1, ← e14, if_pos c6, ix_b1, ← e15, if_pos c6, ix_b1, ← e16, h1, ix_b1]
  have k0 : ∀ i, i < 8 → t.1 24 i = s.1 8 i := fun i hi => by
    rw [g5 24 (by omega), f16 24 (by decide), f15 24 (by decide), f14 24 (by decide), f13 24 (by decide), f12 24 (by decide), f11 24 (by decide), f10 24 (by decide), f9 24 (by decide)]
    have h8 : i = 0 ∨ i = 1 ∨ i = 2 ∨ i = 3 ∨ i = 4 ∨ i = 5 ∨ i = 6 ∨ i = 7 := by omega
    rcases h8 with rfl | rfl | rfl | rfl | rfl | rfl | rfl | rfl
    · rw [e8, ix_sIj (by decide), e7, ix_sIj (by decide), e6, ix_sIj (by decide), e5, ix_sIj (by decide), e4, ix_sIj (by decide), e3, ix_sIj (by decide), e2, ix_sIj (by decide), e1, ix_sIs]
    · rw [e8, ix_sIj (by decide), e7, ix_sIj (by decide), e6, ix_sIj (by decide), e5, ix_sIj (by decide), e4, ix_sIj (by decide), e3, ix_sIj (by decide), e2, ix_sIs, f1 8 (by decide)]
    · rw [e8, ix_sIj (by decide), e7, ix_sIj (by decide), e6, ix_sIj (by decide), e5, ix_sIj (by decide), e4, ix_sIj (by decide), e3, ix_sIs, f2 8 (by decide), f1 8 (by decide)]
    · rw [e8, ix_sIj (by decide), e7, ix_sIj (by decide), e6, ix_sIj (by decide), e5, ix_sIj (by decide), e4, ix_sIs, f3 8 (by decide), f2 8 (by decide), f1 8 (by decide)]
    · rw [e8, ix_sIj (by decide), e7, ix_sIj (by decide), e6, ix_sIj (by decide), e5, ix_sIs, f4 8 (by decide), f3 8 (by decide), f2 8 (by decide), f1 8 (by decide)]
    · rw [e8, ix_sIj (by decide), e7, ix_sIj (by decide), e6, ix_sIs, f5 8 (by decide), f4 8 (by decide), f3 8 (by decide), f2 8 (by decide), f1 8 (by decide)]
    · rw [e8, ix_sIj (by decide), e7, ix_sIs, f6 8 (by decide), f5 8 (by decide), f4 8 (by decide), f3 8 (by decide), f2 8 (by decide), f1 8 (by decide)]
    · rw [e8, ix_sIs, f7 8 (by decide), f6 8 (by decide), f5 8 (by decide), f4 8 (by decide), f3 8 (by decide), f2 8 (by decide), f1 8 (by decide)]
  have k1 : ∀ j, j < 16 → t.1 (24 + 1) j = s.1 (8 + 1) j := fun r hr => by
    show t.1 25 r = s.1 9 r
    rw [g5 25 (by omega), f16 25 (by decide), f15 25 (by decide), f14 25 (by decide), f13 25 (by decide), f12 25 (by decide), f11 25 (by decide), f10 25 (by decide), e9p, ix_sC, if_pos ⟨rfl, Nat.zero_le _, by omega⟩, Nat.sub_zero, Nat.zero_add, f8 9 (by decide), f7 9 (by decide), f6 9 (by decide), f5 9 (by decide), f4 9 (by decide), f3 9 (by decide), f2 9 (by decide), f1 9 (by decide)]
  have k2 : ∀ r, r < 6 → t.1 (24 + 2) r = s.1 (8 + 2) r := fun r hr => by
    show t.1 26 r = s.1 10 r
    rw [g5 26 (by omega), f16 26 (by decide), f15 26 (by decide), f14 26 (by decide), f13 26 (by decide), f12 26 (by decide), f11 26 (by decide), e10p, ix_sC, if_pos ⟨rfl, Nat.zero_le _, by omega⟩, Nat.sub_zero, Nat.zero_add, f9 10 (by decide), f8 10 (by decide), f7 10 (by decide), f6 10 (by decide), f5 10 (by decide), f4 10 (by decide), f3 10 (by decide), f2 10 (by decide), f1 10 (by decide)]
  have k3 : ∀ r, r < 6 → t.1 (24 + 3) r = s.1 (8 + 3) r := fun r hr => by
    show t.1 27 r = s.1 11 r
    rw [g5 27 (by omega), f16 27 (by decide), f15 27 (by decide), f14 27 (by decide), f13 27 (by decide), f12 27 (by decide), e11p, ix_sC, if_pos ⟨rfl, Nat.zero_le _, by omega⟩, Nat.sub_zero, Nat.zero_add, f10 11 (by decide), f9 11 (by decide), f8 11 (by decide), f7 11 (by decide), f6 11 (by decide), f5 11 (by decide), f4 11 (by decide), f3 11 (by decide), f2 11 (by decide), f1 11 (by decide)]
  have k4 : ∀ r, r < 6 → t.1 (24 + 4) r = s.1 (8 + 4) r := fun r hr => by
    show t.1 28 r = s.1 12 r
    rw [g5 28 (by omega), f16 28 (by decide), f15 28 (by decide), f14 28 (by decide), f13 28 (by decide), e12p, ix_sC, if_pos ⟨rfl, Nat.zero_le _, by omega⟩, Nat.sub_zero, Nat.zero_add, f11 12 (by decide), f10 12 (by decide), f9 12 (by decide), f8 12 (by decide), f7 12 (by decide), f6 12 (by decide), f5 12 (by decide), f4 12 (by decide), f3 12 (by decide), f2 12 (by decide), f1 12 (by decide)]
  have k5 : ∀ r, r < 6 → t.1 (24 + 5) r = s.1 (8 + 5) r := fun r hr => by
    show t.1 29 r = s.1 13 r
    rw [g5 29 (by omega), f16 29 (by decide), f15 29 (by decide), f14 29 (by decide), e13p, ix_sC, if_pos ⟨rfl, Nat.zero_le _, by omega⟩, Nat.sub_zero, Nat.zero_add, f12 13 (by decide), f11 13 (by decide), f10 13 (by decide), f9 13 (by decide), f8 13 (by decide), f7 13 (by decide), f6 13 (by decide), f5 13 (by decide), f4 13 (by decide), f3 13 (by decide), f2 13 (by decide), f1 13 (by decide)]
  have k6 : ∀ r, r < 6 → t.1 (24 + 6) r = s.1 (8 + 6) r := fun r hr => by
    show t.1 30 r = s.1 14 r
    rw [g5 30 (by omega), f16 30 (by decide), f15 30 (by decide), e14p, ix_sC, if_pos ⟨rfl, Nat.zero_le _, by omega⟩, Nat.sub_zero, Nat.zero_add, f13 14 (by decide), f12 14 (by decide), f11 14 (by decide), f10 14 (by decide), f9 14 (by decide), f8 14 (by decide), f7 14 (by decide), f6 14 (by decide), f5 14 (by decide), f4 14 (by decide), f3 14 (by decide), f2 14 (by decide), f1 14 (by decide)]
  have k7 : ∀ r, r < 6 → t.1 (24 + 7) r = s.1 (8 + 7) r := fun r hr => by
    show t.1 31 r = s.1 15 r
    rw [g5 31 (by omega), f16 31 (by decide), e15p, ix_sC, if_pos ⟨rfl, Nat.zero_le _, by omega⟩, Nat.sub_zero, Nat.zero_add, f14 15 (by decide), f13 15 (by decide), f12 15 (by decide), f11 15 (by decide), f10 15 (by decide), f9 15 (by decide), f8 15 (by decide), f7 15 (by decide), f6 15 (by decide), f5 15 (by decide), f4 15 (by decide), f3 15 (by decide), f2 15 (by decide), f1 15 (by decide)]
  have k8 : ∀ r, r < 6 → t.1 (24 + 8) r = s.1 (8 + 8) r := fun r hr => by
    show t.1 32 r = s.1 16 r
    rw [g5 32 (by omega), e16p, ix_sC, if_pos ⟨rfl, Nat.zero_le _, by omega⟩, Nat.sub_zero, Nat.zero_add, f15 16 (by decide), f14 16 (by decide), f13 16 (by decide), f12 16 (by decide), f11 16 (by decide), f10 16 (by decide), f9 16 (by decide), f8 16 (by decide), f7 16 (by decide), f6 16 (by decide), f5 16 (by decide), f4 16 (by decide), f3 16 (by decide), f2 16 (by decide), f1 16 (by decide)]
  obtain ⟨a0, a1, a2, a3, a4, a5, a6, a7, a8, a9, a10, -⟩ := R
  have hrn := sq_rn_8 ok
  refine ⟨t, hF, ⟨?_, ?_, ?_, ?_, ?_, ?_, ?_, ?_, fun j hj => ?_, fun v hv => ?_, fun r hr => ?_, ?_, ?_, fun r hr => ?_, fun k hk => ?_⟩, ⟨fun z hz => ?_, ?_⟩⟩
  · rw [k0 0 (by omega)]; exact a0
  · rw [k0 1 (by omega)]; exact a1
  · rw [k0 2 (by omega)]; exact a2
  · rw [k0 3 (by omega)]; exact a3
  · rw [k0 4 (by omega)]; exact a4
  · rw [k0 5 (by omega)]; exact a5
  · rw [k0 6 (by omega)]; exact a6
  · rw [k0 7 (by omega)]; exact a7
  · rw [k1 j hj]; exact a8 j hj
  · rw [k2 v hv, k3 v hv, k4 v hv, k5 v hv]; exact a9 v hv
  · rw [k6 r hr, k7 r hr, k8 r hr]; exact a10 r hr
  · show t.1 33 0 = _
    rw [h2 0 (by omega), f0 17 (by omega)]; exact r0
  · show t.1 33 1 = _
    rw [h2 1 (by omega), f0 17 (by omega)]; exact r1
  · have q1 := h3 1 (by omega) (by omega) r (by omega)
    have q2 := h3 2 (by omega) (by omega) r (by omega)
    have q3 := h3 3 (by omega) (by omega) r (by omega)
    have q4 := h3 4 (by omega) (by omega) r (by omega)
    rw [f0 _ (by omega)] at q1 q2 q3 q4
    have q1' : t.1 (24 + 9 + 1) r = s.1 (8 + 9 + 1) r := q1
    have q2' : t.1 (24 + 9 + 2) r = s.1 (8 + 9 + 2) r := q2
    have q3' : t.1 (24 + 9 + 3) r = s.1 (8 + 9 + 3) r := q3
    have q4' : t.1 (24 + 9 + 4) r = s.1 (8 + 9 + 4) r := q4
    rw [q1', q2', q3', q4']; exact r2 r hr
  · have q5 := h4 k hk
    rw [f0 _ (by omega)] at q5
    have q5' : t.1 (24 + 9 + 5) k = s.1 (8 + 9 + 5) k := q5
    rw [q5']; exact r3 k hk
  · have hz' : ¬ (24 ≤ z ∧ z < 39) := by simpa using hz
    rw [g5 z (by omega), f0 z (by omega)]
  · rw [h5.2, e16, e15, e14, e13, e12, e11, e10, e9, e8, e7, e6, e5, e4, e3, e2, e1]; rfl
theorem cz_bl8_8_24 {s : am_S} {m : Nat → Int32} (R : sq_R s.1 24 m) (ok : sq_Ok m) : ∃ t, F_X8_becomeLike_8_24 s = some t ∧ sq_R t.1 8 m ∧ ix_Fr (fun k => decide (8 ≤ k) && decide (k < 23)) s t := by
  have c16 : ¬ (0 : Int32) < 0 ∧ ¬ (0 : Int32) < 0 ∧ ¬ (16 : Int32) < 0 ∧ (0 : Int32).toNatClampNeg + (16 : Int32).toNatClampNeg ≤ 16 ∧ (0 : Int32).toNatClampNeg + (16 : Int32).toNatClampNeg ≤ 16 := by decide
  have c6 : ¬ (0 : Int32) < 0 ∧ ¬ (0 : Int32) < 0 ∧ ¬ (6 : Int32) < 0 ∧ (0 : Int32).toNatClampNeg + (6 : Int32).toNatClampNeg ≤ 6 ∧ (0 : Int32).toNatClampNeg + (6 : Int32).toNatClampNeg ≤ 6 := by decide
  have n0 : (0 : Int32).toNatClampNeg = 0 := rfl
  have n6 : (6 : Int32).toNatClampNeg = 6 := rfl
  have n16 : (16 : Int32).toNatClampNeg = 16 := rfl
  obtain ⟨t1, e1⟩ : ∃ t1, t1 = am_sI s 8 0 (s.1 24 0) := ⟨_, rfl⟩
  obtain ⟨t2, e2⟩ : ∃ t2, t2 = am_sI t1 8 1 (t1.1 24 1) := ⟨_, rfl⟩
  obtain ⟨t3, e3⟩ : ∃ t3, t3 = am_sI t2 8 2 (t2.1 24 2) := ⟨_, rfl⟩
  obtain ⟨t4, e4⟩ : ∃ t4, t4 = am_sI t3 8 3 (t3.1 24 3) := ⟨_, rfl⟩
  obtain ⟨t5, e5⟩ : ∃ t5, t5 = am_sI t4 8 4 (t4.1 24 4) := ⟨_, rfl⟩
  obtain ⟨t6, e6⟩ : ∃ t6, t6 = am_sI t5 8 5 (t5.1 24 5) := ⟨_, rfl⟩
  obtain ⟨t7, e7⟩ : ∃ t7, t7 = am_sI t6 8 6 (t6.1 24 6) := ⟨_, rfl⟩
  obtain ⟨t8, e8⟩ : ∃ t8, t8 = am_sI t7 8 7 (t7.1 24 7) := ⟨_, rfl⟩
  obtain ⟨t9, e9⟩ : ∃ t9, t9 = am_sC t8 25 9 (0 : Int32).toNatClampNeg (0 : Int32).toNatClampNeg (16 : Int32).toNatClampNeg := ⟨_, rfl⟩
  have e9p : t9 = am_sC t8 25 9 0 0 16 := by rw [e9, n0, n16]
  obtain ⟨t10, e10⟩ : ∃ t10, t10 = am_sC t9 26 10 (0 : Int32).toNatClampNeg (0 : Int32).toNatClampNeg (6 : Int32).toNatClampNeg := ⟨_, rfl⟩
  have e10p : t10 = am_sC t9 26 10 0 0 6 := by rw [e10, n0, n6]
  obtain ⟨t11, e11⟩ : ∃ t11, t11 = am_sC t10 27 11 (0 : Int32).toNatClampNeg (0 : Int32).toNatClampNeg (6 : Int32).toNatClampNeg := ⟨_, rfl⟩
  have e11p : t11 = am_sC t10 27 11 0 0 6 := by rw [e11, n0, n6]
  obtain ⟨t12, e12⟩ : ∃ t12, t12 = am_sC t11 28 12 (0 : Int32).toNatClampNeg (0 : Int32).toNatClampNeg (6 : Int32).toNatClampNeg := ⟨_, rfl⟩
  have e12p : t12 = am_sC t11 28 12 0 0 6 := by rw [e12, n0, n6]
  obtain ⟨t13, e13⟩ : ∃ t13, t13 = am_sC t12 29 13 (0 : Int32).toNatClampNeg (0 : Int32).toNatClampNeg (6 : Int32).toNatClampNeg := ⟨_, rfl⟩
  have e13p : t13 = am_sC t12 29 13 0 0 6 := by rw [e13, n0, n6]
  obtain ⟨t14, e14⟩ : ∃ t14, t14 = am_sC t13 30 14 (0 : Int32).toNatClampNeg (0 : Int32).toNatClampNeg (6 : Int32).toNatClampNeg := ⟨_, rfl⟩
  have e14p : t14 = am_sC t13 30 14 0 0 6 := by rw [e14, n0, n6]
  obtain ⟨t15, e15⟩ : ∃ t15, t15 = am_sC t14 31 15 (0 : Int32).toNatClampNeg (0 : Int32).toNatClampNeg (6 : Int32).toNatClampNeg := ⟨_, rfl⟩
  have e15p : t15 = am_sC t14 31 15 0 0 6 := by rw [e15, n0, n6]
  obtain ⟨t16, e16⟩ : ∃ t16, t16 = am_sC t15 32 16 (0 : Int32).toNatClampNeg (0 : Int32).toNatClampNeg (6 : Int32).toNatClampNeg := ⟨_, rfl⟩
  have e16p : t16 = am_sC t15 32 16 0 0 6 := by rw [e16, n0, n6]
  have f1 : ∀ z, z ≠ 8 → t1.1 z = s.1 z := fun z hz => by rw [e1]; exact ix_sIn hz
  have f2 : ∀ z, z ≠ 8 → t2.1 z = t1.1 z := fun z hz => by rw [e2]; exact ix_sIn hz
  have f3 : ∀ z, z ≠ 8 → t3.1 z = t2.1 z := fun z hz => by rw [e3]; exact ix_sIn hz
  have f4 : ∀ z, z ≠ 8 → t4.1 z = t3.1 z := fun z hz => by rw [e4]; exact ix_sIn hz
  have f5 : ∀ z, z ≠ 8 → t5.1 z = t4.1 z := fun z hz => by rw [e5]; exact ix_sIn hz
  have f6 : ∀ z, z ≠ 8 → t6.1 z = t5.1 z := fun z hz => by rw [e6]; exact ix_sIn hz
  have f7 : ∀ z, z ≠ 8 → t7.1 z = t6.1 z := fun z hz => by rw [e7]; exact ix_sIn hz
  have f8 : ∀ z, z ≠ 8 → t8.1 z = t7.1 z := fun z hz => by rw [e8]; exact ix_sIn hz
  have f9 : ∀ z, z ≠ 9 → t9.1 z = t8.1 z := fun z hz => by rw [e9]; exact ix_sCn hz
  have f10 : ∀ z, z ≠ 10 → t10.1 z = t9.1 z := fun z hz => by rw [e10]; exact ix_sCn hz
  have f11 : ∀ z, z ≠ 11 → t11.1 z = t10.1 z := fun z hz => by rw [e11]; exact ix_sCn hz
  have f12 : ∀ z, z ≠ 12 → t12.1 z = t11.1 z := fun z hz => by rw [e12]; exact ix_sCn hz
  have f13 : ∀ z, z ≠ 13 → t13.1 z = t12.1 z := fun z hz => by rw [e13]; exact ix_sCn hz
  have f14 : ∀ z, z ≠ 14 → t14.1 z = t13.1 z := fun z hz => by rw [e14]; exact ix_sCn hz
  have f15 : ∀ z, z ≠ 15 → t15.1 z = t14.1 z := fun z hz => by rw [e15]; exact ix_sCn hz
  have f16 : ∀ z, z ≠ 16 → t16.1 z = t15.1 z := fun z hz => by rw [e16]; exact ix_sCn hz
  have f0 : ∀ z, z < 8 ∨ 17 ≤ z → t16.1 z = s.1 z := fun z hz => by
    rw [f16 z (by omega), f15 z (by omega), f14 z (by omega), f13 z (by omega), f12 z (by omega), f11 z (by omega), f10 z (by omega), f9 z (by omega), f8 z (by omega), f7 z (by omega), f6 z (by omega), f5 z (by omega), f4 z (by omega), f3 z (by omega), f2 z (by omega), f1 z (by omega)]
  obtain ⟨-, -, -, -, -, -, -, hR⟩ := id ok
  obtain ⟨r0, r1, r2, r3⟩ := R.2.2.2.2.2.2.2.2.2.2.2
  have hen := sq_en_rn ok
  obtain ⟨t, h1, h2, h3, h4, h5⟩ := cz_bl7_17_33 (s := t16) (n := sq_en m (sq_rn m)) hen (by rw [f0 33 (by omega)]; exact r1)
  have g5 : ∀ z, z < 17 ∨ 23 ≤ z → t.1 z = t16.1 z := fun z hz => h5.1 z (by simp; omega)
  have hF : F_X8_becomeLike_8_24 s = some t := by
    rw [F_X8_becomeLike_8_24, ix_b1, ← e1, ix_b1, ← e2, ix_b1, ← e3, ix_b1, ← e4, ix_b1, ← e5, ix_b1, ← e6, ix_b1, ← e7, ix_b1, ← e8, if_pos c16, ix_b1, ← e9, if_pos c6, ix_b1, ← e10, if_pos c6, ix_b1, ← e11, if_pos c6, ix_b1, ← e12, if_pos c6, ix_b1, ← e13, if_pos c6, ix_b1, ← e14, if_pos c6, ix_b1, ← e15, if_pos c6, ix_b1, ← e16, h1, ix_b1]
  have k0 : ∀ i, i < 8 → t.1 8 i = s.1 24 i := fun i hi => by
    rw [g5 8 (by omega), f16 8 (by decide), f15 8 (by decide), f14 8 (by decide), f13 8 (by decide), f12 8 (by decide), f11 8 (by decide), f10 8 (by decide), f9 8 (by decide)]
    have h8 : i = 0 ∨ i = 1 ∨ i = 2 ∨ i = 3 ∨ i = 4 ∨ i = 5 ∨ i = 6 ∨ i = 7 := by omega
    rcases h8 with rfl | rfl | rfl | rfl | rfl | rfl | rfl | rfl
    · rw [e8, ix_sIj (by decide), e7, ix_sIj (by decide), e6, ix_sIj (by decide), e5, ix_sIj (by decide), e4, ix_sIj (by decide), e3, ix_sIj (by decide), e2, ix_sIj (by decide), e1, ix_sIs]
    · rw [e8, ix_sIj (by decide), e7, ix_sIj (by decide), e6, ix_sIj (by decide), e5, ix_sIj (by decide), e4, ix_sIj (by decide), e3, ix_sIj (by decide), e2, ix_sIs, f1 24 (by decide)]
    · rw [e8, ix_sIj (by decide), e7, ix_sIj (by decide), e6, ix_sIj (by decide), e5, ix_sIj (by decide), e4, ix_sIj (by decide), e3, ix_sIs, f2 24 (by decide), f1 24 (by decide)]
    · rw [e8, ix_sIj (by decide), e7, ix_sIj (by decide), e6, ix_sIj (by decide), e5, ix_sIj (by decide), e4, ix_sIs, f3 24 (by decide), f2 24 (by decide), f1 24 (by decide)]
    · rw [e8, ix_sIj (by decide), e7, ix_sIj (by decide), e6, ix_sIj (by decide), e5, ix_sIs, f4 24 (by decide), f3 24 (by decide), f2 24 (by decide), f1 24 (by decide)]
    · rw [e8, ix_sIj (by decide), e7, ix_sIj (by decide), e6, ix_sIs, f5 24 (by decide), f4 24 (by decide), f3 24 (by decide), f2 24 (by decide), f1 24 (by decide)]
    · rw [e8, ix_sIj (by decide), e7, ix_sIs, f6 24 (by decide), f5 24 (by decide), f4 24 (by decide), f3 24 (by decide), f2 24 (by decide), f1 24 (by decide)]
    · rw [e8, ix_sIs, f7 24 (by decide), f6 24 (by decide), f5 24 (by decide), f4 24 (by decide), f3 24 (by decide), f2 24 (by decide), f1 24 (by decide)]
  have k1 : ∀ j, j < 16 → t.1 (8 + 1) j = s.1 (24 + 1) j := fun r hr => by
    show t.1 9 r = s.1 25 r
    rw [g5 9 (by omega), f16 9 (by decide), f15 9 (by decide), f14 9 (by decide), f13 9 (by decide), f12 9 (by decide), f11 9 (by decide), f10 9 (by decide), e9p, ix_sC, if_pos ⟨rfl, Nat.zero_le _, by omega⟩, Nat.sub_zero, Nat.zero_add, f8 25 (by decide), f7 25 (by decide), f6 25 (by decide), f5 25 (by decide), f4 25 (by decide), f3 25 (by decide), f2 25 (by decide), f1 25 (by decide)]
  have k2 : ∀ r, r < 6 → t.1 (8 + 2) r = s.1 (24 + 2) r := fun r hr => by
    show t.1 10 r = s.1 26 r
    rw [g5 10 (by omega), f16 10 (by decide), f15 10 (by decide), f14 10 (by decide), f13 10 (by decide), f12 10 (by decide), f11 10 (by decide), e10p, ix_sC, if_pos ⟨rfl, Nat.zero_le _, by omega⟩, Nat.sub_zero, Nat.zero_add, f9 26 (by decide), f8 26 (by decide), f7 26 (by decide), f6 26 (by decide), f5 26 (by decide), f4 26 (by decide), f3 26 (by decide), f2 26 (by decide), f1 26 (by decide)]
  have k3 : ∀ r, r < 6 → t.1 (8 + 3) r = s.1 (24 + 3) r := fun r hr => by
    show t.1 11 r = s.1 27 r
    rw [g5 11 (by omega), f16 11 (by decide), f15 11 (by decide), f14 11 (by decide), f13 11 (by decide), f12 11 (by decide), e11p, ix_sC, if_pos ⟨rfl, Nat.zero_le _, by omega⟩, Nat.sub_zero, Nat.zero_add, f10 27 (by decide), f9 27 (by decide), f8 27 (by decide), f7 27 (by decide), f6 27 (by decide), f5 27 (by decide), f4 27 (by decide), f3 27 (by decide), f2 27 (by decide), f1 27 (by decide)]
  have k4 : ∀ r, r < 6 → t.1 (8 + 4) r = s.1 (24 + 4) r := fun r hr => by
    show t.1 12 r = s.1 28 r
    rw [g5 12 (by omega), f16 12 (by decide), f15 12 (by decide), f14 12 (by decide), f13 12 (by decide), e12p, ix_sC, if_pos ⟨rfl, Nat.zero_le _, by omega⟩, Nat.sub_zero, Nat.zero_add, f11 28 (by decide), f10 28 (by decide), f9 28 (by decide), f8 28 (by decide), f7 28 (by decide), f6 28 (by decide), f5 28 (by decide), f4 28 (by decide), f3 28 (by decide), f2 28 (by decide), f1 28 (by decide)]
  have k5 : ∀ r, r < 6 → t.1 (8 + 5) r = s.1 (24 + 5) r := fun r hr => by
    show t.1 13 r = s.1 29 r
    rw [g5 13 (by omega), f16 13 (by decide), f15 13 (by decide), f14 13 (by decide), e13p, ix_sC, if_pos ⟨rfl, Nat.zero_le _, by omega⟩, Nat.sub_zero, Nat.zero_add, f12 29 (by decide), f11 29 (by decide), f10 29 (by decide), f9 29 (by decide), f8 29 (by decide), f7 29 (by decide), f6 29 (by decide), f5 29 (by decide), f4 29 (by decide), f3 29 (by decide), f2 29 (by decide), f1 29 (by decide)]
  have k6 : ∀ r, r < 6 → t.1 (8 + 6) r = s.1 (24 + 6) r := fun r hr => by
    show t.1 14 r = s.1 30 r
    rw [g5 14 (by omega), f16 14 (by decide), f15 14 (by decide), e14p, ix_sC, if_pos ⟨rfl, Nat.zero_le _, by omega⟩, Nat.sub_zero, Nat.zero_add, f13 30 (by decide), f12 30 (by decide), f11 30 (by decide), f10 30 (by decide), f9 30 (by decide), f8 30 (by decide), f7 30 (by decide), f6 30 (by decide), f5 30 (by decide), f4 30 (by decide), f3 30 (by decide), f2 30 (by decide), f1 30 (by decide)]
  have k7 : ∀ r, r < 6 → t.1 (8 + 7) r = s.1 (24 + 7) r := fun r hr => by
    show t.1 15 r = s.1 31 r
    rw [g5 15 (by omega), f16 15 (by decide), e15p, ix_sC, if_pos ⟨rfl, Nat.zero_le _, by omega⟩, Nat.sub_zero, Nat.zero_add, f14 31 (by decide), f13 31 (by decide), f12 31 (by decide), f11 31 (by decide), f10 31 (by decide), f9 31 (by decide), f8 31 (by decide), f7 31 (by decide), f6 31 (by decide), f5 31 (by decide), f4 31 (by decide), f3 31 (by decide), f2 31 (by decide), f1 31 (by decide)]
  have k8 : ∀ r, r < 6 → t.1 (8 + 8) r = s.1 (24 + 8) r := fun r hr => by
    show t.1 16 r = s.1 32 r
    rw [g5 16 (by omega), e16p, ix_sC, if_pos ⟨rfl, Nat.zero_le _, by omega⟩, Nat.sub_zero, Nat.zero_add, f15 32 (by decide), f14 32 (by decide), f13 32 (by decide), f12 32 (by decide), f11 32 (by decide), f10 32 (by decide), f9 32 (by decide), f8 32 (by decide), f7 32 (by decide), f6 32 (by decide), f5 32 (by decide), f4 32 (by decide), f3 32 (by decide), f2 32 (by decide), f1 32 (by decide)]
  obtain ⟨a0, a1, a2, a3, a4, a5, a6, a7, a8, a9, a10, -⟩ := R
  have hrn := sq_rn_8 ok
  refine ⟨t, hF, ⟨?_, ?_, ?_, ?_, ?_, ?_, ?_, ?_, fun j hj => ?_, fun v hv => ?_, fun r hr => ?_, ?_, ?_, fun r hr => ?_, fun k hk => ?_⟩, ⟨fun z hz => ?_, ?_⟩⟩
  · rw [k0 0 (by omega)]; exact a0
  · rw [k0 1 (by omega)]; exact a1
  · rw [k0 2 (by omega)]; exact a2
  · rw [k0 3 (by omega)]; exact a3
  · rw [k0 4 (by omega)]; exact a4
  · rw [k0 5 (by omega)]; exact a5
  · rw [k0 6 (by omega)]; exact a6
  · rw [k0 7 (by omega)]; exact a7
  · rw [k1 j hj]; exact a8 j hj
  · rw [k2 v hv, k3 v hv, k4 v hv, k5 v hv]; exact a9 v hv
  · rw [k6 r hr, k7 r hr, k8 r hr]; exact a10 r hr
  · show t.1 17 0 = _
    rw [h2 0 (by omega), f0 33 (by omega)]; exact r0
  · show t.1 17 1 = _
    rw [h2 1 (by omega), f0 33 (by omega)]; exact r1
  · have q1 := h3 1 (by omega) (by omega) r (by omega)
    have q2 := h3 2 (by omega) (by omega) r (by omega)
    have q3 := h3 3 (by omega) (by omega) r (by omega)
    have q4 := h3 4 (by omega) (by omega) r (by omega)
    rw [f0 _ (by omega)] at q1 q2 q3 q4
    have q1' : t.1 (8 + 9 + 1) r = s.1 (24 + 9 + 1) r := q1
    have q2' : t.1 (8 + 9 + 2) r = s.1 (24 + 9 + 2) r := q2
    have q3' : t.1 (8 + 9 + 3) r = s.1 (24 + 9 + 3) r := q3
    have q4' : t.1 (8 + 9 + 4) r = s.1 (24 + 9 + 4) r := q4
    rw [q1', q2', q3', q4']; exact r2 r hr
  · have q5 := h4 k hk
    rw [f0 _ (by omega)] at q5
    have q5' : t.1 (8 + 9 + 5) k = s.1 (24 + 9 + 5) k := q5
    rw [q5']; exact r3 k hk
  · have hz' : ¬ (8 ≤ z ∧ z < 23) := by simpa using hz
    rw [g5 z (by omega), f0 z (by omega)]
  · rw [h5.2, e16, e15, e14, e13, e12, e11, e10, e9, e8, e7, e6, e5, e4, e3, e2, e1]; rfl
