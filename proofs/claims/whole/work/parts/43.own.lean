/-! LAYER 2: the sea's own calls agree (written by wip/whole/l2/gen43.py) -/
theorem ix_10 : ((1 : Int32) = 0) = False := eq_false (by decide)
theorem ix_00 : ((0 : Int32) = 0) = True := eq_true rfl
theorem ix_k0 : am_in (0 : Int32) 296 := by decide
theorem ix_k1 : am_in (1 : Int32) 296 := by decide
theorem ix_k2 : am_in (2 : Int32) 296 := by decide
theorem ix_k3 : am_in (3 : Int32) 296 := by decide
theorem ix_k4 : am_in (4 : Int32) 296 := by decide
theorem ix_k5 : am_in (5 : Int32) 296 := by decide
theorem ix_k6 : am_in (6 : Int32) 296 := by decide
theorem ix_k7 : am_in (7 : Int32) 296 := by decide
theorem sq_sh0 : ∀ v, v < 6 → (0 : Int32) <<< (Int32.ofNat v &&& 31) = 0 := by decide
theorem mz_caughtL {s : am_S} (ok : sq_Ok (s.1 83)) : ∀ l v f, v + l = sq_cn (s.1 83) → l < f → F_X12_caught_82_b4 f (Int32.ofNat (sq_csn (s.1 83) v)) (Int32.ofNat v) s = some (Int32.ofNat (sq_csn (s.1 83) (v + l)), s) := by
  obtain ⟨hc, h0⟩ := sq_cn_ok ok
  have e0 : s.1 83 (0 : Int32).toNatClampNeg = Int32.ofNat (sq_cn (s.1 83)) := h0
  intro l
  induction l with
  | zero =>
    intro v f hl hf
    obtain ⟨f, rfl⟩ : ∃ g, f = g + 1 := ⟨f - 1, by omega⟩
    rw [F_X12_caught_82_b4, if_pos (by decide), e0, if_pos ((ix_le (by omega) (by omega)).mpr (by omega))]
    rfl
  | succ l ih =>
    intro v f hl hf
    obtain ⟨f, rfl⟩ : ∃ g, f = g + 1 := ⟨f - 1, by omega⟩
    have hv : v < 6 := by omega
    have hlt : sq_csn (s.1 83) v < 64 := Nat.lt_of_lt_of_le (sq_csn_lt _ v) (Nat.pow_le_pow_right (n := 2) (j := 6) (by decide) (by omega))
    rw [F_X12_caught_82_b4, if_pos (by decide), e0, if_neg (by rw [ix_le (by omega) (by omega)]; omega), mz_its4 hv, ix_b1, ix_addL]
    dsimp only
    have e : Int32.ofNat (sq_csn (s.1 83) v) ||| (s.1 83 (24 + 5 * v + 4) <<< (Int32.ofNat v &&& 31)) = Int32.ofNat (sq_csn (s.1 83) (v + 1)) := by
      rw [sq_csn]
      obtain ⟨n, hn, en⟩ := (ok.2.2.2.2.2.1 v hv).2.2.2.2
      have hn2 : n = 0 ∨ n = 1 := by omega
      rcases hn2 with rfl | rfl
      · rw [en, if_pos (by decide), show Int32.ofNat 0 = 0 from rfl, sq_sh0 v hv, Int32.or_zero, Nat.or_zero]
      · rw [en, if_neg (by decide), show Int32.ofNat 1 = 1 from rfl, sq_bor _ hlt v hv]
    rw [e, ih (v + 1) f (by omega) (by omega), show v + 1 + l = v + (l + 1) by omega]
theorem sq_cs_cn {m : Nat → Int32} (ok : sq_Ok m) : sq_csn m (sq_cn m) = sq_cs m := by
  symm
  obtain ⟨c, c1, c2, c3⟩ := ok.1
  have hcn : sq_cn m = c := by unfold sq_cn; rw [c2, ix_nat (by omega)]
  refine sq_cs_e (Nat.lt_of_lt_of_le (sq_csn_lt _ _) (Nat.pow_le_pow_right (n := 2) (j := 6) (by decide) (by omega))) (fun v hv => ?_)
  rw [sq_csn_t]
  by_cases h : v < sq_cn m
  · simp [h]
  · simp [h, c3 v hv (by omega)]
theorem mz_caught {s : am_S} (ok : sq_Ok (s.1 83)) : F_X12_caught_82 s = some (Int32.ofNat (sq_cs (s.1 83)), s) := by
  have h := mz_caughtL ok (sq_cn (s.1 83)) 0 1000 (by omega) (by have := (sq_cn_ok ok).1; omega)
  rw [show 0 + sq_cn (s.1 83) = sq_cn (s.1 83) by omega, sq_cs_cn ok] at h
  exact h
theorem ag_tide {a b : Int32} : jz_A (F_X11_tide_0 a b) (F_X12_tide_82 a b) := by
  intro s j
  by_cases h1 : (0 : Int32) ≤ a ∧ a ≤ 15
  · by_cases h2 : (0 : Int32) ≤ b ∧ b ≤ 2
    · obtain ⟨n, -, hn, rfl⟩ := ix_rng (a := 0) (b := 15) (by omega) (by omega) h1
      have hb : sq_N b 2 := by obtain ⟨z, -, hz, rfl⟩ := ix_rng (a := 0) (b := 2) (by omega) (by omega) h2; exact ⟨z, hz, rfl⟩
      have hr : s.1 9 n = s.1 83 (8 + n) := j.1.2.2.2.2.2.2.2.2.2.1 n (by omega)
      have h83 : (am_sI s 9 n b).1 83 = s.1 83 := ix_sIn (by decide)
      refine ⟨s.1 9 n, am_sI s 9 n b, am_sI (am_sI s 9 n b) 83 (8 + n) b, ?_, ?_, jz_set1 j (by unfold sq_mp; omega) (sq_Ok_up j.1.1 (by omega) (fun h => by omega) (fun h => by omega) (fun _ _ => hb) (fun v hv => ⟨fun h => by omega, fun h => by omega, fun h => by omega, fun h => by omega, by omega⟩) (fun h => by omega))⟩
      · simp (disch := omega) only [F_X11_tide_0, cz_isTideTurn, ix_wi_p h1, ix_cw, ix_wi_p h2, cz_ex9, ix_b1, ix_10, ix_00, if_true, if_false]
      · simp (disch := omega) only [F_X12_tide_82, mz_isTurn, ix_wi_p h1, ix_mwl, ix_wi_p h2, ix_Ladd, mz_becomes, ix_b1, ix_10, ix_00, if_true, if_false]
        rw [h83, hr]
    · exact jz_A0 (v := -1) j (by simp only [F_X11_tide_0, cz_isTideTurn, ix_wi_p h1, ix_cw, ix_wi_n h2, ix_b1, ix_10, ix_00, if_true, if_false]) (by simp (disch := omega) only [F_X12_tide_82, mz_isTurn, ix_wi_p h1, ix_mwl, ix_wi_n h2, ix_b1, ix_10, ix_00, if_true, if_false])
  · exact jz_A0 (v := -1) j (by simp only [F_X11_tide_0, cz_isTideTurn, ix_wi_n h1, ix_b1, ix_10, ix_00, if_true, if_false]) (by simp only [F_X12_tide_82, mz_isTurn, ix_wi_n h1, ix_b1, ix_10, ix_00, if_true, if_false])
theorem ag_tideOf {a : Int32} : jz_A (F_X11_tideOf_0 a) (F_X12_tideOf_82 a) := by
  intro s j
  by_cases h1 : (0 : Int32) ≤ a ∧ a ≤ 15
  · obtain ⟨n, -, hn, rfl⟩ := ix_rng (a := 0) (b := 15) (by omega) (by omega) h1
    have hr : s.1 9 n = s.1 83 (8 + n) := j.1.2.2.2.2.2.2.2.2.2.1 n (by omega)
    refine jz_A0 (v := s.1 9 n) j ?_ ?_
    · simp (disch := omega) only [F_X11_tideOf_0, cz_isTideTurn, ix_wi_p h1, ix_nat, ix_b1, ix_10, ix_00, if_true, if_false]
      rw [if_pos ((ix_in (by omega)).mpr (by omega))]
    · simp (disch := omega) only [F_X12_tideOf_82, mz_isTurn, ix_wi_p h1, ix_Ladd, ix_nat, ix_b1, ix_10, ix_00, if_true, if_false]
      rw [if_pos ((ix_in (by omega)).mpr (by omega)), hr]
  · exact jz_A0 (v := -1) j (by simp only [F_X11_tideOf_0, cz_isTideTurn, ix_wi_n h1, ix_b1, ix_10, ix_00, if_true, if_false]) (by simp only [F_X12_tideOf_82, mz_isTurn, ix_wi_n h1, ix_b1, ix_10, ix_00, if_true, if_false])
theorem ag_remake {a b : Int32} : jz_A (F_X11_remake_0 a b) (F_X12_remake_82 a b) := by
  intro s j
  by_cases h1 : 0 ≤ a ∧ a < s.1 83 0
  · by_cases h2 : (1 : Int32) ≤ b ∧ b ≤ 5
    · obtain ⟨v, hv, hv6, rfl⟩ := sq_isv j.1.1 h1
      have hb : sq_N b 5 := by obtain ⟨z, -, hz, rfl⟩ := ix_rng (a := 1) (b := 5) (by omega) (by omega) h2; exact ⟨z, hz, rfl⟩
      have hr : s.1 10 v = s.1 83 (24 + 5 * v) := cz_kind j.1.2 hv6
      have h83 : (am_sI s 10 v b).1 83 = s.1 83 := ix_sIn (by decide)
      have ea : ∀ t, F_X12_at (Int32.ofNat v) 0 t = some (Int32.ofNat (24 + 5 * v), t) := fun t => mz_at (w := 0)
      refine ⟨s.1 10 v, am_sI s 10 v b, am_sI (am_sI s 10 v b) 83 (24 + 5 * v) b, ?_, ?_, jz_set1 j (by unfold sq_mp; omega) (sq_Ok_up j.1.1 (by omega) (fun h => by omega) (fun h => by omega) (fun _ _ => by omega) (fun u hu => ⟨fun _ => hb, fun h => by omega, fun h => by omega, fun h => by omega, by omega⟩) (fun h => by omega))⟩
      · simp (disch := omega) only [F_X11_remake_0, cz_has j.1.2, if_pos h1, cz_isKind, ix_wi_p h2, cz_ex10, ix_b1, ix_10, ix_00, if_true, if_false]
      · have hi := mz_isVoice (x := Int32.ofNat v) (s := am_sI s 10 v b) (by rw [h83]; exact j.1.1)
        rw [h83, if_pos h1] at hi
        simp (disch := omega) only [F_X12_remake_82, hi, mz_isKind, ix_wi_p h2, ea, mz_becomes, ix_b1, ix_10, ix_00, if_true, if_false]
        rw [h83, hr]
    · exact jz_A0 (v := -1) j (by simp only [F_X11_remake_0, cz_has j.1.2, if_pos h1, cz_isKind, ix_wi_n h2, ix_b1, ix_10, ix_00, if_true, if_false]) (by simp only [F_X12_remake_82, mz_isVoice j.1.1, if_pos h1, mz_isKind, ix_wi_n h2, ix_b1, ix_10, ix_00, if_true, if_false])
  · exact jz_A0 (v := -1) j (by simp only [F_X11_remake_0, cz_has j.1.2, if_neg h1, ix_b1, ix_10, ix_00, if_true, if_false]) (by simp only [F_X12_remake_82, mz_isVoice j.1.1, if_neg h1, ix_b1, ix_10, ix_00, if_true, if_false])
theorem ag_state {a : Int32} : jz_A (F_X11_state_0 a) (F_X12_state_82 a) := by
  intro s j
  obtain ⟨ok, R⟩ := j.1
  obtain ⟨r0, r1, r2, r3, r4, r5, r6, r7, -⟩ := id R
  have i3 : s.1 83 (3 : Int32).toNatClampNeg = s.1 83 3 := rfl
  have i2 : s.1 83 (2 : Int32).toNatClampNeg = s.1 83 2 := rfl
  have i4 : s.1 83 (4 : Int32).toNatClampNeg = s.1 83 4 := rfl
  have i5 : s.1 83 (5 : Int32).toNatClampNeg = s.1 83 5 := rfl
  have ho : (if s.1 83 3 < s.1 83 2 then (0 : Int32) else 1) = 0 ∨ (if s.1 83 3 < s.1 83 2 then (0 : Int32) else 1) = 1 := by split <;> simp
  have hm : ∃ v, F_X11_state_0 a s = some (v, s) ∧ F_X12_state_82 a s = some (v, s) := by
    unfold F_X11_state_0 F_X12_state_82
    rw [cz_over R ok, mz_over, mz_caught ok, r0, r1, r2, r3, r6, i3, i2, i4, i5, ix_b1, ix_b1, if_pos ix_k3, if_pos ix_k2, if_pos ix_k4, if_pos ix_k5]
    dsimp only
    split
    · exact ⟨_, rfl, rfl⟩
    split
    · exact ⟨_, rfl, rfl⟩
    split
    · exact ⟨_, rfl, rfl⟩
    split
    · split
      · exact ⟨_, rfl, rfl⟩
      · exact ⟨_, rfl, rfl⟩
    split
    · exact ⟨_, rfl, rfl⟩
    split
    · exact ⟨_, rfl, rfl⟩
    · exact ⟨_, rfl, rfl⟩
  obtain ⟨v, h1, h2⟩ := hm
  exact jz_A0 j h1 h2
theorem ag_seed {a : Int32} : jz_A (F_X11_seed_0 a) (F_X12_seed_82 a) := by
  intro s j
  obtain ⟨ok, R⟩ := j.1
  have r4 : s.1 8 4 = s.1 83 7 := R.2.2.2.2.1
  refine ⟨s.1 8 4, am_sI s 8 4 a, am_sI (am_sI s 8 4 a) 83 7 a, rfl, ?_, jz_set1 j (by unfold sq_mp; omega) (sq_Ok_up ok (by omega) (fun h => by omega) (fun h => by omega) (fun _ _ => by omega) (fun u hu => ⟨fun h => by omega, fun h => by omega, fun h => by omega, fun h => by omega, by omega⟩) (fun h => by omega))⟩
  have h := mz_becomes (a := 7) (y := a) (s := am_sI s 8 4 a) (by omega)
  have h83 : (am_sI s 8 4 a).1 83 = s.1 83 := ix_sIn (by decide)
  rw [h83, ← r4] at h
  have h' : F_X12_becomes_82 7 a (am_sI s 8 4 a) = _ := h
  unfold F_X12_seed_82
  rw [h', ix_b1]
theorem ag_forget : jz_A F_X11_forget_0 F_X12_forget_82 := by
  intro s j
  obtain ⟨ok, R⟩ := j.1
  have r7 : s.1 8 7 = s.1 83 6 := R.2.2.2.2.2.2.2.1
  refine ⟨s.1 8 7, am_sI s 8 7 0, am_sI (am_sI s 8 7 0) 83 6 0, rfl, ?_, jz_set1 j (by unfold sq_mp; omega) (sq_Ok_up ok (by omega) (fun h => by omega) (fun h => ⟨0, by omega, rfl⟩) (fun _ _ => by omega) (fun u hu => ⟨fun h => by omega, fun h => by omega, fun h => by omega, fun h => by omega, by omega⟩) (fun h => by omega))⟩
  have h := mz_becomes (a := 6) (y := 0) (s := am_sI s 8 7 0) (by omega)
  have h83 : (am_sI s 8 7 0).1 83 = s.1 83 := ix_sIn (by decide)
  rw [h83, ← r7] at h
  have h' : F_X12_becomes_82 6 0 (am_sI s 8 7 0) = _ := h
  unfold F_X12_forget_82
  rw [h', ix_b1]
