/-! LAYER 2: best, ith, ways, haul, bars agree (written by wip/whole/l2/gen57.py) -/
theorem ag_best {a : Int32} : jz_A (F_X11_best_0 a) (F_X12_best_82 a) := by
  intro s j
  by_cases h1 : (0 : Int32) ≤ a ∧ a ≤ 4
  · obtain ⟨n, -, hn, rfl⟩ := ix_rng (a := 0) (b := 4) (by omega) (by omega) h1
    obtain ⟨s1, s2, c1, d1, h83, cA, c5, dA, jj, -⟩ := jz_both (t := 0) j hn
    refine ⟨(sq_A (s.1 83) n 0).1, s1, s2, ?_, ?_, jj⟩
    · simp only [F_X11_best_0, cz_isPlan, ix_wi_p h1, ix_b1, ix_10, ix_00, if_true, if_false]
      rw [c1, ix_b1, cA.1]
    · simp only [F_X12_best_82, mz_isLong, ix_wi_p h1, ix_b1, ix_10, ix_00, if_true, if_false]
      rw [d1, ix_b1]
      dsimp only
      rw [dA.1]
  · exact jz_A0 (v := -1) j (by simp only [F_X11_best_0, cz_isPlan, ix_wi_n h1, ix_b1, ix_10, ix_00, if_true, if_false]) (by simp only [F_X12_best_82, mz_isLong, ix_wi_n h1, ix_b1, ix_10, ix_00, if_true, if_false])
theorem ag_ways {a : Int32} : jz_A (F_X11_ways_0 a) (F_X12_ways_82 a) := by
  intro s j
  by_cases h1 : (0 : Int32) ≤ a ∧ a ≤ 4
  · obtain ⟨n, -, hn, rfl⟩ := ix_rng (a := 0) (b := 4) (by omega) (by omega) h1
    obtain ⟨s1, s2, c1, d1, h83, cA, c5, dA, jj, -⟩ := jz_both (t := 0) j hn
    refine ⟨(sq_A (s.1 83) n 0).2.1, s1, s2, ?_, ?_, jj⟩
    · simp only [F_X11_ways_0, cz_isPlan, ix_wi_p h1, ix_b1, ix_10, ix_00, if_true, if_false]
      rw [c1, ix_b1, cA.2.1]
    · simp only [F_X12_ways_82, mz_isLong, ix_wi_p h1, ix_b1, ix_10, ix_00, if_true, if_false]
      rw [d1, ix_b1]
      dsimp only
      rw [dA.2.1]
  · exact jz_A0 (v := -1) j (by simp only [F_X11_ways_0, cz_isPlan, ix_wi_n h1, ix_b1, ix_10, ix_00, if_true, if_false]) (by simp only [F_X12_ways_82, mz_isLong, ix_wi_n h1, ix_b1, ix_10, ix_00, if_true, if_false])
theorem ag_ith {a i : Int32} : jz_A (F_X11_ith_0 a i) (F_X12_ith_82 a i) := by
  intro s j
  obtain ⟨ok, R⟩ := j.1
  by_cases h1 : (0 : Int32) ≤ a ∧ a ≤ 4
  rotate_left
  · exact jz_A0 (v := -1) j (by simp only [F_X11_ith_0, cz_isPlan, ix_wi_n h1, ix_b1, ix_10, ix_00, if_true, if_false]) (by simp only [F_X12_ith_82, mz_isLong, ix_wi_n h1, ix_b1, ix_10, ix_00, if_true, if_false])
  by_cases h2 : (0 : Int32) ≤ i ∧ i ≤ 3
  rotate_left
  · exact jz_A0 (v := -1) j (by simp only [F_X11_ith_0, cz_isPlan, ix_wi_p h1, ix_cw, ix_wi_n h2, ix_b1, ix_10, ix_00, if_true, if_false]) (by simp only [F_X12_ith_82, mz_isLong, ix_wi_p h1, mz_in0x3, ix_wi_n h2, ix_b1, ix_10, ix_00, if_true, if_false])
  obtain ⟨n, -, hn, rfl⟩ := ix_rng (a := 0) (b := 4) (by omega) (by omega) h1
  obtain ⟨q, -, hq, rfl⟩ := ix_rng (a := 0) (b := 3) (by omega) (by omega) h2
  have hpl : sq_pl (s.1 83) n ≤ 4 := by unfold sq_pl; omega
  by_cases hl : q < sq_pl (s.1 83) n
  · obtain ⟨s1, s2, c1, d1, h83, cA, c5, dA, jj, -⟩ := jz_both (t := 0) j hn
    obtain ⟨f, hf⟩ := sq_A_go (n := n) (t := 0) ok hn
    refine ⟨f q, s1, s2, ?_, ?_, jj⟩
    · simp only [F_X11_ith_0, cz_isPlan, ix_wi_p h1, ix_cw, ix_wi_p h2, cz_plen R ok hn, ix_b1, ix_10, ix_00, if_true, if_false]
      rw [if_pos (by rw [ix_lt (by omega) (by omega)]; exact hl), c1, ix_b1, if_pos ((ix_in (by omega)).mpr (by omega)), ix_nat (by omega), cA.2.2.2.2.2.2 f hf q hl]
    · simp only [F_X12_ith_82, mz_isLong, ix_wi_p h1, mz_in0x3, ix_wi_p h2, ix_b1, ix_10, ix_00, if_true, if_false]
      rw [d1, ix_b1, if_neg (by rw [ix_le (by omega) (by omega)]; omega), if_pos ((ix_in (by omega)).mpr (by omega)), ix_nat (by omega)]
      dsimp only
      rw [(dA.2.2.2.2.2.2 f hf).2 q hl]
  · obtain ⟨s2, d1, d2, d3, d4⟩ := mz_plans (s := s) (t := 0) (n := n) ok hn
    refine ⟨-3, s, s2, ?_, ?_, jz_pl j R ix_F2.rf d4 d2 ok⟩
    · simp only [F_X11_ith_0, cz_isPlan, ix_wi_p h1, ix_cw, ix_wi_p h2, cz_plen R ok hn, ix_b1, ix_10, ix_00, if_true, if_false]
      rw [if_neg (by rw [ix_lt (by omega) (by omega)]; exact hl)]
    · simp only [F_X12_ith_82, mz_isLong, ix_wi_p h1, mz_in0x3, ix_wi_p h2, ix_b1, ix_10, ix_00, if_true, if_false]
      rw [d1, ix_b1, if_pos (by rw [ix_le (by omega) (by omega)]; omega)]
theorem cz_hasAll {s : am_S} {m : Nat → Int32} {x : Int32} (R : sq_R s.1 8 m) (ok : sq_Ok m) : F_X8_hasAll_8 x s = some (if 0 ≤ x ∧ x < Int32.ofNat (2 ^ sq_cn m) then 1 else 0, s) := by
  obtain ⟨hc, h0⟩ := sq_cn_ok ok
  unfold F_X8_hasAll_8
  rw [R.2.2.2.2.2.1, h0, sq_sh1 _ hc]
  by_cases h1 : x < 0
  · rw [if_pos h1, if_neg (fun h => by have := h.1; rw [ix_le'] at this; rw [ix_lt'] at h1; omega)]
  · rw [if_neg h1]
    by_cases h2 : Int32.ofNat (2 ^ sq_cn m) ≤ x
    · rw [if_pos h2, if_neg (fun h => by have := h.2; rw [ix_lt'] at this; rw [ix_le'] at h2; omega)]
    · rw [if_neg h2, if_pos ⟨by rw [ix_le']; rw [ix_lt'] at h1; omega, by rw [ix_lt']; rw [ix_le'] at h2; omega⟩]
theorem sq_p2m : ∀ c, c ≤ 6 → (Int32.ofNat (2 ^ c) - 1).toInt = (2 ^ c : Nat) - 1 := by decide
theorem mz_areV {s : am_S} {x : Int32} (ok : sq_Ok (s.1 83)) : F_X12_areVoices_82 x s = some (if 0 ≤ x ∧ x < Int32.ofNat (2 ^ sq_cn (s.1 83)) then 1 else 0, s) := by
  obtain ⟨hc, h0⟩ := sq_cn_ok ok
  obtain ⟨hp1, hp2⟩ := sq_p2 hc
  have e0 : s.1 83 (0 : Int32).toNatClampNeg = Int32.ofNat (sq_cn (s.1 83)) := h0
  unfold F_X12_areVoices_82
  rw [if_pos ix_k0, e0, sq_sh1 _ hc, ix_mw0, ix_b1]
  dsimp only
  rw [ix_z1 ix_wi_or]
  have e : ix_wi x 0 (Int32.ofNat (2 ^ sq_cn (s.1 83)) - 1) = if 0 ≤ x ∧ x < Int32.ofNat (2 ^ sq_cn (s.1 83)) then 1 else 0 := by
    unfold ix_wi
    have : (x ≤ Int32.ofNat (2 ^ sq_cn (s.1 83)) - 1) ↔ x < Int32.ofNat (2 ^ sq_cn (s.1 83)) := by
      rw [ix_le', ix_lt', sq_p2m _ hc, ix_int (by omega)]; omega
    simp only [this]
  rw [e]
theorem ag_haul {a t : Int32} : jz_A (F_X11_haul_0 a t) (F_X12_haul_82 a t) := by
  intro s j
  obtain ⟨ok, R⟩ := j.1
  by_cases h1 : (0 : Int32) ≤ a ∧ a ≤ 4
  rotate_left
  · exact jz_A0 (v := -1) j (by simp only [F_X11_haul_0, cz_isPlan, ix_wi_n h1, ix_b1, ix_10, ix_00, if_true, if_false]) (by simp only [F_X12_haul_82, mz_isLong, ix_wi_n h1, ix_b1, ix_10, ix_00, if_true, if_false])
  by_cases h2 : 0 ≤ t ∧ t < Int32.ofNat (2 ^ sq_cn (s.1 83))
  rotate_left
  · exact jz_A0 (v := -1) j (by simp only [F_X11_haul_0, cz_isPlan, ix_wi_p h1, cz_hasAll R ok, if_neg h2, ix_b1, ix_10, ix_00, if_true, if_false]) (by simp only [F_X12_haul_82, mz_isLong, ix_wi_p h1, mz_areV ok, if_neg h2, ix_b1, ix_10, ix_00, if_true, if_false])
  obtain ⟨n, -, hn, rfl⟩ := ix_rng (a := 0) (b := 4) (by omega) (by omega) h1
  obtain ⟨s1, s2, c1, d1, h83, cA, c5, dA, jj, -⟩ := jz_both (t := t) j hn
  have hv := mz_areV (s := s1) (x := t) (by rw [h83]; exact ok)
  rw [h83, if_pos h2] at hv
  refine ⟨if (sq_A (s.1 83) n t).2.2.1 = 5 then -3 else Int32.ofNat (sq_A (s.1 83) n t).2.2.1, s1, s2, ?_, ?_, jj⟩
  · simp only [F_X11_haul_0, cz_isPlan, ix_wi_p h1, cz_hasAll R ok, if_pos h2, ix_b1, ix_10, ix_00, if_true, if_false]
    rw [c1, ix_b1, cA.2.2.2.1]
  · simp only [F_X12_haul_82, mz_isLong, ix_wi_p h1, hv, ix_b1, ix_10, ix_00, if_true, if_false]
    rw [d1, ix_b1]
    dsimp only
    have h5 := dA.2.2.1
    rw [dA.2.2.2.1]
    by_cases hf : (sq_A (s.1 83) n t).2.2.1 = 5
    · rw [if_neg (by rw [ix_leL (by omega) (by omega)]; omega), if_pos hf]
    · rw [if_pos (by rw [ix_leL (by omega) (by omega)]; omega), if_neg hf]
def sq_lo (z : Nat) : Nat → Nat → Int32
  | 0, _ => -3
  | l + 1, v => if z.testBit v = true then Int32.ofNat v else sq_lo z l (v + 1)
theorem cz_lo {z : Nat} {s : am_S} (hz : z < 64) : ∀ (l v f : Nat), v + l = 6 → l < f → F_X11_leastOf_b2 f (Int32.ofNat z) (Int32.ofNat v) s = some (sq_lo z l v, s) := by
  intro l
  induction l with
  | zero =>
    intro v f hl hf
    obtain ⟨f, rfl⟩ : ∃ g, f = g + 1 := ⟨f - 1, by omega⟩
    rw [F_X11_leastOf_b2, if_pos (by rw [ix_Lle (by omega) (by omega)]; omega)]
    rfl
  | succ l ih =>
    intro v f hl hf
    obtain ⟨f, rfl⟩ : ∃ g, f = g + 1 := ⟨f - 1, by omega⟩
    rw [F_X11_leastOf_b2, if_neg (by rw [ix_Lle (by omega) (by omega)]; omega), sq_bit z hz v (by omega), ix_addL, ih (v + 1) f (by omega) (by omega), sq_lo]
    by_cases h : z.testBit v = true
    · rw [if_pos h, if_pos rfl, if_pos h]
    · rw [if_neg h, if_neg (by decide), if_neg h]
theorem sq_lo_cut {z : Nat} : ∀ (l v k : Nat), (∀ u, v + l ≤ u → z.testBit u = false) → sq_lo z (l + k) v = sq_lo z l v := by
  intro l
  induction l with
  | zero =>
    intro v k
    induction k generalizing v with
    | zero => intro _; rfl
    | succ k ihk =>
      intro h
      have h0 : z.testBit v = false := h v (by omega)
      have := ihk (v + 1) (fun u hu => h u (by omega))
      have e : sq_lo z (k + 1) v = sq_lo z k (v + 1) := by
        show (if z.testBit v = true then _ else _) = _
        rw [h0]; rfl
      rw [show 0 + k = k by omega] at this
      rw [show 0 + (k + 1) = k + 1 by omega, e]
      exact this
  | succ l ih =>
    intro v k h
    rw [show l + 1 + k = (l + k) + 1 by omega, sq_lo, sq_lo, ih (v + 1) k (fun u hu => h u (by omega))]
theorem sq_an64 : ∀ a, a < 64 → ∀ e, e < 64 → Int32.ofNat a &&& (Int32.ofNat e ^^^ (-1 : Int32)) = Int32.ofNat (a &&& (63 ^^^ e)) ∧ a &&& (63 ^^^ e) < 64 := by decide +kernel
theorem mz_barsL {s : am_S} {w y : Int32} {z : Nat} (ok : sq_Ok (s.1 83)) (hz : z < 64) (hw : w &&& (s.1 82 12 ^^^ (-1 : Int32)) = Int32.ofNat z) : ∀ (l v f : Nat), v + l = sq_cn (s.1 83) → l < f → F_X12_bars_82_b27 f w y (Int32.ofNat v) s = some (sq_lo z l v, s) := by
  obtain ⟨hc, h0⟩ := sq_cn_ok ok
  have e0 : s.1 83 (0 : Int32).toNatClampNeg = Int32.ofNat (sq_cn (s.1 83)) := h0
  intro l
  induction l with
  | zero =>
    intro v f hl hf
    obtain ⟨f, rfl⟩ : ∃ g, f = g + 1 := ⟨f - 1, by omega⟩
    rw [F_X12_bars_82_b27, if_pos ix_k0, e0, if_pos (by rw [ix_le (by omega) (by omega)]; omega)]
    rfl
  | succ l ih =>
    intro v f hl hf
    obtain ⟨f, rfl⟩ : ∃ g, f = g + 1 := ⟨f - 1, by omega⟩
    rw [F_X12_bars_82_b27, if_pos ix_k0, e0, if_neg (by rw [ix_le (by omega) (by omega)]; omega), hw, sq_bit z hz v (by omega), ix_addL, ih (v + 1) f (by omega) (by omega), sq_lo]
    by_cases h : z.testBit v = true
    · rw [if_pos h, if_pos rfl, if_pos h]
    · rw [if_neg h, if_neg (by decide), if_neg h]
theorem ag_bars {a t : Int32} : jz_A (F_X11_bars_0 a t) (F_X12_bars_82 a t) := by
  intro s j
  obtain ⟨ok, R⟩ := j.1
  obtain ⟨hc, h0⟩ := sq_cn_ok ok
  obtain ⟨hp1, hp2⟩ := sq_p2 hc
  by_cases h1 : (0 : Int32) ≤ a ∧ a ≤ 4
  rotate_left
  · exact jz_A0 (v := -1) j (by simp only [F_X11_bars_0, cz_isPlan, ix_wi_n h1, ix_b1, ix_10, ix_00, if_true, if_false]) (by simp only [F_X12_bars_82, mz_isLong, ix_wi_n h1, ix_b1, ix_10, ix_00, if_true, if_false])
  by_cases h2 : 0 ≤ t ∧ t < Int32.ofNat (2 ^ sq_cn (s.1 83))
  rotate_left
  · exact jz_A0 (v := -1) j (by simp only [F_X11_bars_0, cz_isPlan, ix_wi_p h1, cz_hasAll R ok, if_neg h2, ix_b1, ix_10, ix_00, if_true, if_false]) (by simp only [F_X12_bars_82, mz_isLong, ix_wi_p h1, mz_areV ok, if_neg h2, ix_b1, ix_10, ix_00, if_true, if_false])
  obtain ⟨n, -, hn, rfl⟩ := ix_rng (a := 0) (b := 4) (by omega) (by omega) h1
  obtain ⟨x, hx, rfl⟩ : ∃ x, x < 2 ^ sq_cn (s.1 83) ∧ t = Int32.ofNat x := by
    have e := ix_of h2.1
    have hl := h2.2
    rw [e, ix_lt (by have := Int32.toNatClampNeg_lt t; omega) (by omega)] at hl
    exact ⟨_, hl, e⟩
  obtain ⟨s1, s2, c1, d1, h83, cA, c5, dA, jj, h832, -⟩ := jz_both (t := Int32.ofNat x) j hn
  have hv := mz_areV (s := s1) (x := Int32.ofNat x) (by rw [h83]; exact ok)
  rw [h83, if_pos h2] at hv
  have hev := cA.2.2.2.2.1
  obtain ⟨o1, o2⟩ := sq_an64 x (by omega) _ hev
  have hcut : sq_lo (x &&& (63 ^^^ (sq_A (s.1 83) n (Int32.ofNat x)).2.2.2.1)) 6 0 = sq_lo (x &&& (63 ^^^ (sq_A (s.1 83) n (Int32.ofNat x)).2.2.2.1)) (sq_cn (s.1 83)) 0 := by
    have := sq_lo_cut (z := x &&& (63 ^^^ (sq_A (s.1 83) n (Int32.ofNat x)).2.2.2.1)) (sq_cn (s.1 83)) 0 (6 - sq_cn (s.1 83)) (fun u hu => by
      rw [Nat.testBit_and, Nat.testBit_lt_two_pow (Nat.lt_of_lt_of_le hx (Nat.pow_le_pow_right (by decide) (by omega)))]
      rfl)
    rwa [show sq_cn (s.1 83) + (6 - sq_cn (s.1 83)) = 6 by omega] at this
  refine ⟨sq_lo (x &&& (63 ^^^ (sq_A (s.1 83) n (Int32.ofNat x)).2.2.2.1)) (sq_cn (s.1 83)) 0, s1, s2, ?_, ?_, jj⟩
  · simp only [F_X11_bars_0, cz_isPlan, ix_wi_p h1, cz_hasAll R ok, if_pos h2, ix_b1, ix_10, ix_00, if_true, if_false]
    have hl : F_X11_leastOf (Int32.ofNat (x &&& (63 ^^^ (sq_A (s.1 83) n (Int32.ofNat x)).2.2.2.1))) s1 = _ := cz_lo o2 6 0 1000 (by omega) (by omega)
    rw [c1, ix_b1, cA.2.2.2.2.2.1, o1, hl, ix_b1, hcut]
  · simp only [F_X12_bars_82, mz_isLong, ix_wi_p h1, hv, ix_b1, ix_10, ix_00, if_true, if_false]
    rw [d1, ix_b1]
    dsimp only
    have hb := mz_barsL (s := s2) (w := Int32.ofNat x) (y := Int32.ofNat (sq_pl (s.1 83) n)) (by rw [h832]; exact ok) o2 (by rw [dA.2.2.2.2.2.1]; exact o1) (sq_cn (s.1 83)) 0 1000 (by rw [h832]; omega) (by omega)
    exact hb
