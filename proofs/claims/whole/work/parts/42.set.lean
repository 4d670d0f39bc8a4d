/-! LAYER 2: one place of the sea written in both; tests of ranges (written by wip/whole/l2/gen42.py) -/
theorem ix_sIs {s : am_S} {k j : Nat} {v : Int32} : (am_sI s k j v).1 k j = v := by rw [ix_sI1, if_pos rfl]
theorem ix_sIj {s : am_S} {k j k1 j1 : Nat} {v : Int32} (h : ¬ (k1 = k ∧ j1 = j)) : (am_sI s k j v).1 k1 j1 = s.1 k1 j1 := by rw [ix_sI, if_neg h]
/-- two calls that answer alike and keep what holds -/
def jz_A (Fx Fm : am_S → Option (Int32 × am_S)) : Prop := ∀ s, jz_J s → ∃ v s1 s2, Fx s = some (v, s1) ∧ Fm s1 = some (v, s2) ∧ jz_J s2
theorem jz_A0 {Fx Fm : am_S → Option (Int32 × am_S)} {s : am_S} {v : Int32} (j : jz_J s) (h1 : Fx s = some (v, s)) (h2 : Fm s = some (v, s)) : ∃ v s1 s2, Fx s = some (v, s1) ∧ Fm s1 = some (v, s2) ∧ jz_J s2 := ⟨v, s, s, h1, h2, j⟩
theorem sq_Ok_up {m : Nat → Int32} {a : Nat} {x : Int32} (ok : sq_Ok m) (h0 : a ≠ 0 ∧ a ≠ 1 ∧ a ≠ 2 ∧ a ≠ 3 ∧ a < 72) (h5 : a = 5 → sq_N x 9) (h6 : a = 6 → sq_N x 6) (h8 : 8 ≤ a → a < 24 → sq_N x 2) (hk : ∀ v, v < 6 → (a = 24 + 5 * v → sq_N x 5) ∧ (a = 24 + 5 * v + 1 → sq_N x 9) ∧ (a = 24 + 5 * v + 2 → sq_N x 9) ∧ (a = 24 + 5 * v + 3 → sq_N x 15) ∧ a ≠ 24 + 5 * v + 4) (hr : 54 ≤ a → sq_N x 15) : sq_Ok (upd m a x) := by
  obtain ⟨⟨c, c1, c2, c3⟩, ⟨t, e, t1, t2, t3, t4, t5⟩, a5, a6, a8, a24, a54, aR⟩ := ok
  have hn : ∀ j b, sq_N (m j) b → (a = j → sq_N x b) → sq_N (upd m a x j) b := fun j b g1 g2 => by
    rw [ix_up]; split
    · rename_i h; exact g2 h.symm
    · exact g1
  refine ⟨⟨c, c1, by rw [ix_upn (by omega)]; exact c2, fun v hv hc => by rw [ix_upn (Ne.symm (hk v hv).2.2.2.2)]; exact c3 v hv hc⟩, ⟨t, e, t1, t2, t3, by rw [ix_upn (by omega)]; exact t4, by rw [ix_upn (by omega)]; exact t5⟩, hn _ _ a5 h5, hn _ _ a6 h6, fun j hj => hn _ _ (a8 j hj) (fun h => h8 (by omega) (by omega)), fun v hv => ?_, fun r hr2 => ?_, sq_OkR_c (ix_upn (by omega)) (fun j hj => ix_upn (by omega)) aR⟩
  · obtain ⟨k0, k1, k2, k3, k4⟩ := hk v hv
    obtain ⟨b0, b1, b2, b3, b4⟩ := a24 v hv
    exact ⟨hn _ _ b0 k0, hn _ _ b1 k1, hn _ _ b2 k2, hn _ _ b3 k3, hn _ _ b4 (fun h => absurd h k4)⟩
  · obtain ⟨b0, b1, b2⟩ := a54 r hr2
    exact ⟨hn _ _ b0 (fun h => hr (by omega)), hn _ _ b1 (fun h => hr (by omega)), hn _ _ b2 (fun h => hr (by omega))⟩
/-- a place of the class's sea and one of the row that tell the same -/
def sq_mp (k i a : Nat) : Prop := (k = 8 ∧ ((i = 0 ∧ a = 3) ∨ (i = 1 ∧ a = 2) ∨ (i = 2 ∧ a = 5) ∨ (i = 3 ∧ a = 4) ∨ (i = 4 ∧ a = 7) ∨ (i = 5 ∧ a = 0) ∨ (i = 7 ∧ a = 6))) ∨ (k = 9 ∧ i < 16 ∧ a = 8 + i) ∨ (10 ≤ k ∧ k ≤ 13 ∧ i < 6 ∧ a = 24 + 5 * i + (k - 10)) ∨ (14 ≤ k ∧ k ≤ 16 ∧ i < 6 ∧ a = 54 + 3 * i + (k - 14))
theorem sq_R_up {s : am_S} {m : Nat → Int32} {k i a : Nat} {y : Int32} (R : sq_R s.1 8 m) (h : sq_mp k i a) : sq_R (am_sI s k i y).1 8 (upd m a y) := by
  obtain ⟨a0, a1, a2, a3, a4, a5, a6, a7, a8, a9, a10, a11⟩ := R
  have hb : ∀ k1 i1 a1, s.1 k1 i1 = m a1 → ((k1 = k ∧ i1 = i) ↔ a1 = a) → (am_sI s k i y).1 k1 i1 = upd m a y a1 := fun k1 i1 a1 g1 g2 => by
    rw [ix_sI, ix_up]
    by_cases hh : k1 = k ∧ i1 = i
    · rw [if_pos hh, if_pos (g2.mp hh)]
    · rw [if_neg hh, if_neg (fun z => hh (g2.mpr z))]; exact g1
  have ec : sq_cs (upd m a y) = sq_cs m := sq_cs_c (fun u hu => ix_upn (by unfold sq_mp at h; omega))
  have hk : k < 17 ∧ 8 ≤ k := by unfold sq_mp at h; omega
  have h2 : a < 72 ∧ a ≠ 1 := by unfold sq_mp at h; omega
  have h6 : ¬ (8 = k ∧ 6 = i) := by unfold sq_mp at h; omega
  refine ⟨hb _ _ _ a0 (by unfold sq_mp at h; omega), hb _ _ _ a1 (by unfold sq_mp at h; omega), hb _ _ _ a2 (by unfold sq_mp at h; omega), hb _ _ _ a3 (by unfold sq_mp at h; omega), hb _ _ _ a4 (by unfold sq_mp at h; omega), hb _ _ _ a5 (by unfold sq_mp at h; omega), by rw [ix_sIj h6, ec]; exact a6, hb _ _ _ a7 (by unfold sq_mp at h; omega), fun j hj => hb _ _ _ (a8 j hj) (by unfold sq_mp at h; omega), fun v hv => ?_, fun r hr => ?_, sq_RR_c (ix_upn (by omega)) (fun j hj => ix_upn (by omega)) (fun q h1 h3 => ix_sIn (by omega)) a11⟩
  · obtain ⟨b0, b1, b2, b3⟩ := a9 v hv
    exact ⟨hb _ _ _ b0 (by unfold sq_mp at h; omega), hb _ _ _ b1 (by unfold sq_mp at h; omega), hb _ _ _ b2 (by unfold sq_mp at h; omega), hb _ _ _ b3 (by unfold sq_mp at h; omega)⟩
  · obtain ⟨b0, b1, b2⟩ := a10 r hr
    exact ⟨hb _ _ _ b0 (by unfold sq_mp at h; omega), hb _ _ _ b1 (by unfold sq_mp at h; omega), hb _ _ _ b2 (by unfold sq_mp at h; omega)⟩
theorem jz_fin {s s1 s2 : am_S} {m' : Nat → Int32} (j : jz_J s) (R1 : sq_R s1.1 8 m') (f1 : ix_F2 sq_pS s s1) (f2 : ix_F2 sq_pS s1 s2) (hc : ∀ k, 8 ≤ k → k < 23 → s2.1 k = s1.1 k) (h83 : s2.1 83 = m') (ok : sq_Ok m') : jz_J s2 :=
  jz_keep j (f1.tr f2) ⟨by rw [h83]; exact ok, by rw [h83]; exact sq_R_fr hc R1⟩
theorem jz_set1 {s : am_S} {k i a : Nat} {y : Int32} (j : jz_J s) (h : sq_mp k i a) (ok : sq_Ok (upd (s.1 83) a y)) : jz_J (am_sI (am_sI s k i y) 83 a y) := by
  have hk : k < 17 ∧ 8 ≤ k := by unfold sq_mp at h; omega
  refine jz_fin j (sq_R_up j.1.2 h) (ix_F2.I (by unfold sq_pS; simp; omega)) (ix_F2.I (by rfl)) (fun q h1 h2 => ix_sIn (by omega)) ?_ ok
  rw [ix_sIf, ix_sIn (by omega)]
theorem mz_isVoice {x : Int32} {s : am_S} (ok : sq_Ok (s.1 83)) : F_X12_isVoice_82 x s = some (if 0 ≤ x ∧ x < s.1 83 0 then 1 else 0, s) := by
  obtain ⟨hc, h0⟩ := sq_cn_ok ok
  unfold F_X12_isVoice_82
  have e0 : s.1 83 (0 : Int32).toNatClampNeg = Int32.ofNat (sq_cn (s.1 83)) := h0
  rw [if_pos (by decide), e0, ix_mw0, ix_b1]
  dsimp only
  rw [ix_z1 ix_wi_or, h0]
  have hd : ∀ c, c ≤ 6 → (Int32.ofNat c - 1).toInt = (c : Int) - 1 := by decide
  have e : ix_wi x 0 (Int32.ofNat (sq_cn (s.1 83)) - 1) = if 0 ≤ x ∧ x < Int32.ofNat (sq_cn (s.1 83)) then 1 else 0 := by
    unfold ix_wi
    have : (x ≤ Int32.ofNat (sq_cn (s.1 83)) - 1) ↔ x < Int32.ofNat (sq_cn (s.1 83)) := by
      rw [ix_le', ix_lt', hd _ hc, ix_int (by omega)]; omega
    simp only [this]
  rw [e]
/-- a voice that there is -/
theorem sq_isv {m : Nat → Int32} {x : Int32} (ok : sq_Ok m) (h : 0 ≤ x ∧ x < m 0) : ∃ v, v < sq_cn m ∧ v < 6 ∧ x = Int32.ofNat v := by
  obtain ⟨hc, h0⟩ := sq_cn_ok ok
  have e := ix_of h.1
  have hl := h.2
  rw [e, h0, ix_lt (by have := Int32.toNatClampNeg_lt x; omega) (by omega)] at hl
  exact ⟨x.toNatClampNeg, hl, by omega, e⟩
theorem ix_rng {x : Int32} {a b : Nat} (ha : a < 2147483648) (hb : b < 2147483648) (h : (Int32.ofNat a) ≤ x ∧ x ≤ (Int32.ofNat b)) : ∃ n, a ≤ n ∧ n ≤ b ∧ x = Int32.ofNat n := ix_of3 hb ha h.1 h.2
theorem cz_isKind {x : Int32} {s : am_S} : F_X11_isKind x s = some (ix_wi x 1 5, s) := by
  unfold F_X11_isKind
  rw [ix_cw, ix_b1]
  exact if_pos ix_wi_or
theorem cz_isPitch {x : Int32} {s : am_S} : F_X11_isPitch x s = some (ix_wi x 0 9, s) := by
  unfold F_X11_isPitch
  rw [ix_cw, ix_b1]
  exact if_pos ix_wi_or
theorem cz_isStrength {x : Int32} {s : am_S} : F_X11_isStrength x s = some (ix_wi x 1 9, s) := by
  unfold F_X11_isStrength
  rw [ix_cw, ix_b1]
  exact if_pos ix_wi_or
theorem cz_isPlace {x : Int32} {s : am_S} : F_X11_isPlace x s = some (ix_wi x 0 15, s) := by
  unfold F_X11_isPlace
  rw [ix_cw, ix_b1]
  exact if_pos ix_wi_or
theorem cz_isTideTurn {x : Int32} {s : am_S} : F_X11_isTideTurn x s = some (ix_wi x 0 15, s) := by
  unfold F_X11_isTideTurn
  rw [ix_cw, ix_b1]
  exact if_pos ix_wi_or
theorem cz_isPlan {x : Int32} {s : am_S} : F_X11_isPlan x s = some (ix_wi x 0 4, s) := by
  unfold F_X11_isPlan
  rw [ix_cw, ix_b1]
  exact if_pos ix_wi_or
theorem cz_isGame {x : Int32} {s : am_S} : F_X11_isGame x s = some (ix_wi x 1 4, s) := by
  unfold F_X11_isGame
  rw [ix_cw, ix_b1]
  exact if_pos ix_wi_or
theorem cz_isSheet {x : Int32} {s : am_S} : F_X11_isSheet x s = some (ix_wi x 0 3, s) := by
  unfold F_X11_isSheet
  rw [ix_cw, ix_b1]
  exact if_pos ix_wi_or
theorem cz_isSort {x : Int32} {s : am_S} : F_X11_isSort x s = some (ix_wi x 0 4, s) := by
  unfold F_X11_isSort
  rw [ix_cw, ix_b1]
  exact if_pos ix_wi_or
theorem cz_isShelf {x : Int32} {s : am_S} : F_X11_isShelf x s = some (ix_wi x 0 3, s) := by
  unfold F_X11_isShelf
  rw [ix_cw, ix_b1]
  exact if_pos ix_wi_or
theorem mz_isKind {x : Int32} {s : am_S} : F_X12_isKind x s = some (ix_wi x 1 5, s) := by
  unfold F_X12_isKind
  rw [ix_mwl (by decide) (by decide), ix_b1]
  exact if_pos ix_wi_or
theorem mz_isTurn {x : Int32} {s : am_S} : F_X12_isTurn x s = some (ix_wi x 0 15, s) := by
  unfold F_X12_isTurn
  rw [ix_mwl (by decide) (by decide), ix_b1]
  exact if_pos ix_wi_or
theorem mz_isLong {x : Int32} {s : am_S} : F_X12_isLong x s = some (ix_wi x 0 4, s) := by
  unfold F_X12_isLong
  rw [ix_mwl (by decide) (by decide), ix_b1]
  exact if_pos ix_wi_or
theorem mz_isOne {x : Int32} {s : am_S} : F_X12_isOne x s = some (ix_wi x 0 3, s) := by
  unfold F_X12_isOne
  rw [ix_mwl (by decide) (by decide), ix_b1]
  exact if_pos ix_wi_or
theorem mz_isPart1 {x : Int32} {s : am_S} : F_X12_isPart 1 x s = some (ix_wi x 0 9, s) := by
  unfold F_X12_isPart
  rw [if_pos rfl, ix_mwl (by decide) (by decide), ix_b1]
  exact if_pos ix_wi_or
theorem mz_isPart2 {x : Int32} {s : am_S} : F_X12_isPart 2 x s = some (ix_wi x 1 9, s) := by
  unfold F_X12_isPart
  rw [if_neg (by decide)]
  rw [if_pos rfl, ix_mwl (by decide) (by decide), ix_b1]
  exact if_pos ix_wi_or
theorem mz_isPart3 {x : Int32} {s : am_S} : F_X12_isPart 3 x s = some (ix_wi x 0 15, s) := by
  unfold F_X12_isPart
  rw [if_neg (by decide)]
  rw [if_neg (by decide)]
  rw [if_pos rfl, ix_mwl (by decide) (by decide), ix_b1]
  exact if_pos ix_wi_or
theorem mz_isPart4 {x : Int32} {s : am_S} : F_X12_isPart 4 x s = some (ix_wi x 0 1, s) := by
  unfold F_X12_isPart
  rw [if_neg (by decide), if_neg (by decide), if_neg (by decide), if_pos rfl, ix_mwl (by decide) (by decide), ix_b1]
  dsimp only
  rcases ix_wi_or (x := x) (lo := 0) (hi := 1) with h | h
  · rw [h]; rfl
  · rw [h]; rfl
theorem mz_isPart0 {w x : Int32} {s : am_S} (h1 : ¬ w = 1) (h2 : ¬ w = 2) (h3 : ¬ w = 3) (h4 : ¬ w = 4) : F_X12_isPart w x s = some (0, s) := by
  unfold F_X12_isPart
  rw [if_neg h1, if_neg h2, if_neg h3, if_neg h4]
theorem mz_becomes {a : Nat} {y : Int32} {s : am_S} (h : a < 296) : F_X12_becomes_82 (Int32.ofNat a) y s = some (s.1 83 a, am_sI s 83 a y) := by
  unfold F_X12_becomes_82
  rw [if_pos ((ix_in (by omega)).mpr h), if_pos ((ix_in (by omega)).mpr h), ix_nat (by omega)]
  rfl
theorem cz_ex9 {i : Nat} {y : Int32} {s : am_S} (h : i < 16) : F_X11_exchange_9 (Int32.ofNat i) y s = some (s.1 9 i, am_sI s 9 i y) := by
  unfold F_X11_exchange_9
  rw [if_neg (ix_nn (by omega)), if_pos (by rw [ix_ltL (by omega) (by omega)]; omega), if_pos ((ix_in (by omega)).mpr h), if_pos ((ix_in (by omega)).mpr h), ix_nat (by omega)]
  rfl
theorem cz_ex10 {i : Nat} {y : Int32} {s : am_S} (h : i < 6) : F_X11_exchange_10 (Int32.ofNat i) y s = some (s.1 10 i, am_sI s 10 i y) := by
  unfold F_X11_exchange_10
  rw [if_neg (ix_nn (by omega)), if_pos (by rw [ix_ltL (by omega) (by omega)]; omega), if_pos ((ix_in (by omega)).mpr h), if_pos ((ix_in (by omega)).mpr h), ix_nat (by omega)]
  rfl
theorem cz_ex11 {i : Nat} {y : Int32} {s : am_S} (h : i < 6) : F_X11_exchange_11 (Int32.ofNat i) y s = some (s.1 11 i, am_sI s 11 i y) := by
  unfold F_X11_exchange_11
  rw [if_neg (ix_nn (by omega)), if_pos (by rw [ix_ltL (by omega) (by omega)]; omega), if_pos ((ix_in (by omega)).mpr h), if_pos ((ix_in (by omega)).mpr h), ix_nat (by omega)]
  rfl
theorem cz_ex12 {i : Nat} {y : Int32} {s : am_S} (h : i < 6) : F_X11_exchange_12 (Int32.ofNat i) y s = some (s.1 12 i, am_sI s 12 i y) := by
  unfold F_X11_exchange_12
  rw [if_neg (ix_nn (by omega)), if_pos (by rw [ix_ltL (by omega) (by omega)]; omega), if_pos ((ix_in (by omega)).mpr h), if_pos ((ix_in (by omega)).mpr h), ix_nat (by omega)]
  rfl
theorem cz_ex13 {i : Nat} {y : Int32} {s : am_S} (h : i < 6) : F_X11_exchange_13 (Int32.ofNat i) y s = some (s.1 13 i, am_sI s 13 i y) := by
  unfold F_X11_exchange_13
  rw [if_neg (ix_nn (by omega)), if_pos (by rw [ix_ltL (by omega) (by omega)]; omega), if_pos ((ix_in (by omega)).mpr h), if_pos ((ix_in (by omega)).mpr h), ix_nat (by omega)]
  rfl
