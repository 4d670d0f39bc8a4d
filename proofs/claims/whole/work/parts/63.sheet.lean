/-! LAYER 2: sheets: sheet, write, item agree (written by hand) -/
def sq_pSH (k j : Nat) : Bool := sq_pS k j || k == 72 || k == 73 || k == 93 || k == 94 || k == 95
theorem jz_keepH {s t : am_S} (j : jz_J s) (f : ∀ k j, sq_pSH k j = false → t.1 k j = s.1 k j) (js : jz_S t) (jH : jz_H t) : jz_J t := by
  obtain ⟨-, jK, jT, jR, -, jL, jG, jN⟩ := j
  refine ⟨js, jz_K_fr (fun k q h => f k q ?_) jK, jz_T_fr (fun k q h => f k q ?_) jT, jz_R_fr (fun k q h => f k q ?_) jR, jH, jz_L_fr (fun k q h => f k q ?_) jL, jz_G_fr (fun k q h => f k q ?_) jG, jz_N_fr (fun k q h => f k q ?_) jN⟩
  · rcases h with h | rfl | ⟨rfl, rfl⟩ | ⟨rfl, rfl⟩
    · unfold sq_pSH; rw [sq_pS_a h.1 h.2]; simp; omega
    all_goals rfl
  · rcases h with rfl | rfl | ⟨rfl, rfl⟩ | ⟨rfl, rfl⟩
    all_goals rfl
  · rcases h with h | rfl | ⟨rfl, rfl⟩ | ⟨rfl, rfl⟩
    · unfold sq_pSH; rw [sq_pS_b h.1 h.2]; simp; omega
    all_goals rfl
  · rcases h with rfl | rfl | rfl | rfl | rfl | rfl
    all_goals rfl
  · rcases h with rfl | rfl | ⟨rfl, rfl⟩ | ⟨rfl, rfl⟩
    all_goals rfl
  · rcases h with rfl | rfl
    all_goals rfl
theorem ix_sLs {s : am_S} {k j : Nat} {v : Int64} : (am_sL s k j v).2 k j = v := by rw [ix_sL, if_pos ⟨rfl, rfl⟩]
theorem ix_sLn {s : am_S} {k j k1 j1 : Nat} {v : Int64} (h : ¬ (k1 = k ∧ j1 = j)) : (am_sL s k j v).2 k1 j1 = s.2 k1 j1 := by rw [ix_sL, if_neg h]
theorem cz_fill {q : Nat} : ∀ (l i f : Nat) (s : am_S), i + l = 40 → l < f → ∃ s', F_J7_fill_d0a16_f74_b6 q f 0 (Int32.ofNat i) 40 s = some s' ∧ s'.1 = s.1 ∧ ∀ k1 j1, s'.2 k1 j1 = if k1 = 75 + q ∧ i ≤ j1 ∧ j1 < 40 then 0 else s.2 k1 j1 := by
  intro l
  induction l with
  | zero =>
    intro i f s hl hf
    obtain ⟨f, rfl⟩ : ∃ g, f = g + 1 := ⟨f - 1, by omega⟩
    refine ⟨s, ?_, rfl, fun k1 j1 => by rw [if_neg (by omega)]⟩
    rw [F_J7_fill_d0a16_f74_b6, if_pos (by rw [ix_Lle (by omega) (by omega)]; omega)]
  | succ l ih =>
    intro i f s hl hf
    obtain ⟨f, rfl⟩ : ∃ g, f = g + 1 := ⟨f - 1, by omega⟩
    obtain ⟨s', i1, i2, i3⟩ := ih (i + 1) f (am_sL s (75 + q) i 0) (by omega) (by omega)
    refine ⟨s', ?_, i2, fun k1 j1 => ?_⟩
    · rw [F_J7_fill_d0a16_f74_b6, if_neg (by rw [ix_Lle (by omega) (by omega)]; omega), if_pos ((ix_in (by omega)).mpr (by omega)), ix_b1, ix_nat (by omega), ix_addL, i1]
    · rw [i3 k1 j1, ix_sL]
      by_cases h1 : k1 = 75 + q ∧ j1 = i
      · rw [if_pos h1, if_pos (show k1 = 75 + q ∧ i ≤ j1 ∧ j1 < 40 from ⟨h1.1, by omega, by omega⟩)]; split <;> rfl
      · rw [if_neg h1]
        by_cases h2 : k1 = 75 + q ∧ i + 1 ≤ j1 ∧ j1 < 40
        · rw [if_pos h2, if_pos (show k1 = 75 + q ∧ i ≤ j1 ∧ j1 < 40 from ⟨h2.1, by omega, h2.2.2⟩)]
        · rw [if_neg h2, if_neg (show ¬ (k1 = 75 + q ∧ i ≤ j1 ∧ j1 < 40) from fun z => h2 ⟨z.1, by omega, z.2.2⟩)]
theorem mz_fill {q : Nat} {x3 : Int32} (hq : q < 4) : ∀ (l i f : Nat) (s : am_S), i + l = 40 → l < f → ∃ s', F_X12_sheet_82_b69 f (Int32.ofNat q) x3 (Int32.ofNat i) s = some (1, s') ∧ (∀ j1, s'.1 95 j1 = if 40 * q + i ≤ j1 ∧ j1 < 40 * q + 40 then 0 else s.1 95 j1) ∧ ix_Fr (fun k => k == 95) s s' := by
  intro l
  induction l with
  | zero =>
    intro i f s hl hf
    obtain ⟨f, rfl⟩ : ∃ g, f = g + 1 := ⟨f - 1, by omega⟩
    refine ⟨s, ?_, fun j1 => by rw [if_neg (by omega)], ix_Fr.rf⟩
    rw [F_X12_sheet_82_b69, if_pos (by rw [ix_Lle (by omega) (by omega)]; omega)]
  | succ l ih =>
    intro i f s hl hf
    obtain ⟨f, rfl⟩ : ∃ g, f = g + 1 := ⟨f - 1, by omega⟩
    have g0 : (40 : Int32) * Int32.ofNat q = Int32.ofNat (40 * q) := ix_Lmul q 40
    obtain ⟨s', i1, i2, i3⟩ := ih (i + 1) f (am_sI s 95 (40 * q + i) 0) (by omega) (by omega)
    refine ⟨s', ?_, fun j1 => ?_, (ix_Fr.I (by rfl)).tr i3⟩
    · rw [F_X12_sheet_82_b69, if_neg (by rw [ix_Lle (by omega) (by omega)]; omega), g0, ix_add, if_pos ((ix_in (by omega)).mpr (by omega)), ix_b1, ix_nat (by omega), ix_addL, i1]
    · rw [i2 j1, ix_sI1]
      by_cases h1 : j1 = 40 * q + i
      · rw [if_pos h1, if_pos (show 40 * q + i ≤ j1 ∧ j1 < 40 * q + 40 by omega)]; split <;> rfl
      · rw [if_neg h1]
        by_cases h2 : 40 * q + (i + 1) ≤ j1 ∧ j1 < 40 * q + 40
        · rw [if_pos h2, if_pos (by omega)]
        · rw [if_neg h2, if_neg (by omega)]
/-- a sheet is laid -/
theorem jz_lay {s : am_S} {q : Nat} {a2 y0 : Int32} {x3 : Int32} (j : jz_J s) (hq : q < 4) (ha : a2 = -1 ∨ sq_N a2 4) (hy : sq_N y0 40) : ∃ s1 s2, F_J7_fill_d0a16_f74 q 0 (am_sI (am_sI s 72 q a2) 73 q y0) = some s1 ∧ F_X12_sheet_82_b69 1000 (Int32.ofNat q) x3 0 (am_sI (am_sI s1 93 q a2) 94 q y0) = some (1, s2) ∧ jz_J s2 := by
  obtain ⟨s1, c1, c2, c3⟩ := cz_fill (q := q) 40 0 1000 (am_sI (am_sI s 72 q a2) 73 q y0) (by omega) (by omega)
  obtain ⟨s2, d1, d2, d3⟩ := mz_fill (x3 := x3) hq 40 0 1000 (am_sI (am_sI s1 93 q a2) 94 q y0) (by omega) (by omega)
  have e1 : ∀ z, z ≠ 72 → z ≠ 73 → s1.1 z = s.1 z := fun z h1 h2 => by rw [c2, ix_sIn h2, ix_sIn h1]
  have e2 : ∀ z, z ≠ 93 → z ≠ 94 → z ≠ 95 → s2.1 z = s1.1 z := fun z h1 h2 h3 => by rw [d3.1 z (by simp; omega), ix_sIn h2, ix_sIn h1]
  have f : ∀ k j, sq_pSH k j = false → s2.1 k j = s.1 k j := fun k j hk => by
    unfold sq_pSH at hk; simp at hk
    rw [e2 k (by omega) (by omega) (by omega), e1 k (by omega) (by omega)]
  have h83 : s2.1 83 = s.1 83 := by rw [e2 83 (by omega) (by omega) (by omega), e1 83 (by omega) (by omega)]
  have e22 : s2.2 = s1.2 := d3.2
  have es2 : (am_sI (am_sI s 72 q a2) 73 q y0).2 = s.2 := rfl
  refine ⟨s1, s2, c1, d1, jz_keepH j f ⟨by rw [h83]; exact j.1.1, by rw [h83]; exact sq_R_fr (fun k h1 h2 => by rw [e2 k (by omega) (by omega) (by omega), e1 k (by omega) (by omega)]) j.1.2⟩ (fun p hp => ?_)⟩
  have a72 : s2.1 72 p = if p = q then a2 else s.1 72 p := by
    rw [e2 72 (by omega) (by omega) (by omega), c2, ix_sIn (by omega), ix_sI1]
  have a73 : s2.1 73 p = if p = q then y0 else s.1 73 p := by
    rw [e2 73 (by omega) (by omega) (by omega), c2, ix_sI1, ix_sIn (by omega)]
  have a93 : s2.1 93 p = if p = q then a2 else s.1 93 p := by
    rw [d3.1 93 rfl, ix_sIn (by omega), ix_sI1, e1 93 (by omega) (by omega)]
  have a94 : s2.1 94 p = if p = q then y0 else s.1 94 p := by
    rw [d3.1 94 rfl, ix_sI1, ix_sIn (by omega), e1 94 (by omega) (by omega)]
  rw [a72, a73, a93, a94]
  obtain ⟨b1, b2, b3, b4, b5⟩ := j.2.2.2.2.1 p hp
  by_cases hpq : p = q
  · subst hpq
    rw [if_pos rfl, if_pos rfl, if_pos rfl, if_pos rfl]
    refine ⟨rfl, ha, rfl, hy, fun i hi => ?_⟩
    rw [d2, if_pos (by omega), e22, c3, if_pos ⟨rfl, Nat.zero_le _, hi⟩]
    rfl
  · rw [if_neg hpq, if_neg hpq, if_neg hpq, if_neg hpq]
    refine ⟨b1, b2, b3, b4, fun i hi => ?_⟩
    rw [d2, if_neg (by omega), e22, c3, if_neg (by omega), es2, b5 i hi]
    have : s1.1 95 = s.1 95 := e1 95 (by omega) (by omega)
    rw [ix_sIn (by omega), ix_sIn (by omega), this]
theorem mz_inm1x4 {x : Int32} {s : am_S} : F_X12_in x.toInt64 (-1) 4 s = some (ix_wi x (-1) 4, s) := ix_mwm (by decide)
theorem ix_m1x4 {x : Int32} (h : -1 ≤ x ∧ x ≤ 4) : x = -1 ∨ (sq_N x 4 ∧ ¬ x < 0 ∧ ¬ x = -1) := by
  by_cases h0 : 0 ≤ x
  · right
    obtain ⟨k, hk, rfl⟩ := ix_of2 (b := 4) (by omega) h0 h.2
    exact ⟨⟨k, hk, rfl⟩, ix_nn (by omega), ix_neg (by omega)⟩
  · left
    have h1 := h.1
    rw [ix_le'] at h0 h1
    have e0 : (0 : Int32).toInt = 0 := rfl
    have e1 : (-1 : Int32).toInt = -1 := rfl
    rw [← Int32.toInt_inj, e1]; omega
theorem ag_sheet {a b c : Int32} : jz_A (F_X11_sheet_0 a b c) (F_X12_sheet_82 a b c) := by
  intro s j
  have z1 : ¬ (1 : Int32) = 0 := by decide
  by_cases h1 : (0 : Int32) ≤ a ∧ a ≤ 3
  rotate_left
  · exact jz_A0 (v := -1) j (by simp only [F_X11_sheet_0, cz_isSheet, ix_wi_n h1, ix_b1, ix_10, ix_00, if_true, if_false]) (by simp only [F_X12_sheet_82, mz_isOne, ix_wi_n h1, ix_b1, ix_10, ix_00, if_true, if_false])
  by_cases h2 : (-1 : Int32) ≤ b ∧ b ≤ 4
  rotate_left
  · exact jz_A0 (v := -1) j (by simp only [F_X11_sheet_0, cz_isSheet, ix_cw, ix_wi_p h1, ix_wi_n h2, ix_b1, ix_10, ix_00, if_true, if_false]) (by simp only [F_X12_sheet_82, mz_isOne, mz_inm1x4, ix_wi_p h1, ix_wi_n h2, ix_b1, ix_10, ix_00, if_true, if_false])
  obtain ⟨q, -, hq, rfl⟩ := ix_rng (a := 0) (b := 3) (by omega) (by omega) h1
  have hi4 : am_in (Int32.ofNat q) 4 := (ix_in (by omega)).mpr (by omega)
  have hn : (Int32.ofNat q).toNatClampNeg = q := ix_nat (by omega)
  have hC : ∀ r, F_X11_sheet_0_b28 (Int32.ofNat q) b c (if b = -1 then 0 else c) s = r → F_X11_sheet_0 (Int32.ofNat q) b c s = r := by
    intro r hr
    simp only [F_X11_sheet_0, cz_isSheet, ix_cw, ix_wi_p h1, ix_wi_p h2, ix_b1, ix_10, if_false]
    by_cases hb : b = -1
    · rw [if_pos hb] at hr ⊢; exact hr
    · rw [if_neg hb] at hr ⊢; exact hr
  have hM : ∀ (s1 : am_S) r, (if b < 0 then F_X12_sheet_82_b33 (Int32.ofNat q) b c s1 else if c ≤ 40 then F_X12_sheet_82_b33 (Int32.ofNat q) b c s1 else some (-1, s1)) = r → F_X12_sheet_82 (Int32.ofNat q) b c s1 = r := by
    intro s1 r hr
    simp only [F_X12_sheet_82, mz_isOne, mz_inm1x4, ix_wi_p h1, ix_wi_p h2, ix_b1, ix_10, if_false]
    exact hr
  have hlay : ∀ y0 : Int32, sq_N y0 40 → (b = -1 ∨ sq_N b 4) → ∃ s1 s2, F_X11_sheet_0_b28 (Int32.ofNat q) b c y0 s = some (1, s1) ∧ F_X12_sheet_82_b65 (Int32.ofNat q) c y0 (Int32.ofNat q) (am_sI s1 93 q b) = some (1, s2) ∧ jz_J s2 := by
    intro y0 hy hb
    obtain ⟨s1, s2, c1, c2, c3⟩ := jz_lay (x3 := c) j (show q < 4 by omega) hb hy
    obtain ⟨y, hy1, rfl⟩ := hy
    refine ⟨s1, s2, ?_, ?_, c3⟩
    · rw [F_X11_sheet_0_b28, if_pos (by rw [ix_leL (by omega) (by omega)]; omega), if_pos (by rw [ix_Lle (by omega) (by omega)]; omega), if_pos hi4]
      simp only [hn]
      rw [ix_b1, if_pos hi4, ix_b1, if_pos hi4, c1, ix_b1]
    · rw [F_X12_sheet_82_b65, if_pos hi4]
      simp only [hn]
      rw [ix_b1, c2]
  rcases ix_m1x4 h2 with hb | ⟨hb, hb0, hb1⟩
  · obtain ⟨s1, s2, c1, c2, c3⟩ := hlay 0 ⟨0, by omega, rfl⟩ (Or.inl hb)
    refine ⟨1, s1, s2, hC _ (by rw [if_pos hb]; exact c1), hM s1 _ ?_, c3⟩
    have hlt : b < 0 := by rw [hb]; decide
    have hnle : ¬ (0 : Int32) ≤ b := by rw [hb]; decide
    rw [if_pos hlt, F_X12_sheet_82_b33, if_pos hlt, F_X12_sheet_82_b44, if_pos hi4]
    simp only [hn]
    rw [ix_b1, if_neg hnle, c2]
  · have hge : (0 : Int32) ≤ b := by obtain ⟨z, hz, rfl⟩ := hb; rw [ix_Lle (by omega) (by omega)]; omega
    by_cases hc : c ≤ 40
    · by_cases hc0 : 0 ≤ c
      · obtain ⟨y, hy, rfl⟩ := ix_of2 (b := 40) (by omega) hc0 hc
        obtain ⟨s1, s2, c1, c2, c3⟩ := hlay (Int32.ofNat y) ⟨y, hy, rfl⟩ (Or.inr hb)
        refine ⟨1, s1, s2, hC _ (by rw [if_neg hb1]; exact c1), hM s1 _ ?_, c3⟩
        rw [if_neg hb0, if_pos hc, F_X12_sheet_82_b33, if_neg hb0, if_pos hc0, F_X12_sheet_82_b44, if_pos hi4]
        simp only [hn]
        rw [ix_b1, if_pos hge, c2]
      · refine jz_A0 (v := -14) j (hC _ ?_) (hM s _ ?_)
        · rw [if_neg hb1, F_X11_sheet_0_b28, if_pos hc, if_neg hc0]
        · rw [if_neg hb0, if_pos hc, F_X12_sheet_82_b33, if_neg hb0, if_neg hc0]
    · refine jz_A0 (v := -1) j (hC _ ?_) (hM s _ ?_)
      · rw [if_neg hb1, F_X11_sheet_0_b28, if_neg hc]
      · rw [if_neg hb0, if_neg hc]
/-! writing, and reading -/
def sq_nw (k x : Int32) : Int32 := if k = 0 then x.toInt8.toInt32 else if k = 1 then x.toInt16.toInt32 else if k = 4 then (if x = 0 then 0 else 1) else x
theorem cz_narrowed {k x : Int32} {s : am_S} : F_X11_narrowed k x s = some ((sq_nw k x).toInt64, s) := by
  unfold F_X11_narrowed sq_nw
  by_cases h0 : k = 0
  · rw [if_pos h0, if_pos h0]
  · rw [if_neg h0, if_neg h0]
    by_cases h1 : k = 1
    · rw [if_pos h1, if_pos h1]
    · rw [if_neg h1, if_neg h1]
      by_cases h2 : k = 2
      · rw [if_pos h2, if_neg (by rw [h2]; decide)]
      · rw [if_neg h2]
        by_cases h3 : k = 3
        · rw [if_pos h3, if_neg (by rw [h3]; decide)]
        · rw [if_neg h3]
          by_cases h4 : k = 4
          · rw [if_pos h4, if_pos h4]
            by_cases hx : x = 0
            · rw [if_pos hx, if_pos hx]; rfl
            · rw [if_neg hx, if_neg hx]; rfl
          · rw [if_neg h4, if_neg h4]
theorem mz_narrowed {k x : Int32} {s : am_S} : F_X12_narrowed k x s = some (sq_nw k x, s) := by
  unfold F_X12_narrowed sq_nw
  by_cases h0 : k = 0
  · rw [if_pos h0, if_pos h0]
  · rw [if_neg h0, if_neg h0]
    by_cases h1 : k = 1
    · rw [if_pos h1, if_pos h1]
    · rw [if_neg h1, if_neg h1]
      by_cases h4 : k = 4
      · rw [if_pos h4, if_pos h4]
        by_cases hx : x = 0
        · rw [if_pos hx, if_pos hx]
        · rw [if_neg hx, if_neg hx]
      · rw [if_neg h4, if_neg h4]
theorem cz_hasItem {q : Nat} {i : Int32} {s : am_S} (hq : q < 4) : F_X11_hasItem_0 (Int32.ofNat q) i s = some (ix_wi i 0 (s.1 73 q - 1), s) := by
  unfold F_X11_hasItem_0
  rw [if_pos ((ix_in (by omega)).mpr hq), ix_nat (by omega), ix_cw, ix_b1]
  exact if_pos ix_wi_or
theorem ix_64 {x : Int32} : x.toInt64.toInt32 = x := by simp
theorem sq_itN {a : Int32} {n : Nat} (hn : n < 2147483648) (h : 0 ≤ a ∧ a ≤ Int32.ofNat n - 1) : ∃ k, k < n ∧ a = Int32.ofNat k := by
  have h1 := (ix_le1 hn).mp h.2
  have h3 : a ≤ Int32.ofNat n := by rw [ix_le'] at h1 ⊢; omega
  obtain ⟨k, hk, ek⟩ := ix_of2 hn h.1 h3
  refine ⟨k, ?_, ek⟩
  rw [ek, ix_le (by omega) (by omega)] at h1
  omega
theorem ag_write {a b c : Int32} : jz_A (F_X11_write_0 a b c) (F_X12_write_82 a b c) := by
  intro s j
  have z1 : ¬ (1 : Int32) = 0 := by decide
  by_cases h1 : (0 : Int32) ≤ a ∧ a ≤ 3
  rotate_left
  · exact jz_A0 (v := -1) j (by simp only [F_X11_write_0, cz_isSheet, ix_wi_n h1, ix_b1, ix_10, ix_00, if_true, if_false]) (by simp only [F_X12_write_82, mz_isOne, ix_wi_n h1, ix_b1, ix_10, ix_00, if_true, if_false])
  obtain ⟨q, -, hq, rfl⟩ := ix_rng (a := 0) (b := 3) (by omega) (by omega) h1
  have hq4 : q < 4 := by omega
  have hi4 : am_in (Int32.ofNat q) 4 := (ix_in (by omega)).mpr (by omega)
  have hn : (Int32.ofNat q).toNatClampNeg = q := ix_nat (by omega)
  obtain ⟨b1, b2, b3, ⟨n, hn40, e73⟩, b5⟩ := j.2.2.2.2.1 q hq4
  have e94 : s.1 94 q = Int32.ofNat n := by rw [← b3, e73]
  rcases b2 with hk | hk
  · have hk2 : ¬ (0 : Int32) ≤ s.1 93 q := by rw [← b1, hk]; decide
    refine jz_A0 (v := -11) j ?_ ?_
    · simp only [F_X11_write_0, cz_isSheet, ix_wi_p h1, ix_b1, ix_10, if_false, hn]
      rw [if_pos hi4, if_pos hk]
    · simp only [F_X12_write_82, mz_isOne, ix_wi_p h1, ix_b1, ix_10, if_false, hn]
      rw [if_pos hi4, if_neg hk2]
  have hk1 : ¬ s.1 72 q = -1 := by obtain ⟨z, hz, ez⟩ := hk; rw [ez]; exact ix_neg (by omega)
  have hk2 : (0 : Int32) ≤ s.1 93 q := by obtain ⟨z, hz, ez⟩ := hk; rw [← b1, ez, ix_Lle (by omega) (by omega)]; omega
  by_cases h2 : 0 ≤ b ∧ b ≤ Int32.ofNat n - 1
  rotate_left
  · refine jz_A0 (v := -12) j ?_ ?_
    · simp only [F_X11_write_0, cz_isSheet, ix_wi_p h1, ix_b1, ix_10, if_false, hn]
      rw [if_pos hi4, if_neg hk1, cz_hasItem hq4, e73, ix_wi_n h2]; rfl
    · simp only [F_X12_write_82, mz_isOne, ix_wi_p h1, ix_b1, ix_10, if_false, hn]
      rw [if_pos hi4, if_pos hk2, if_pos hi4, ix_mw0, e94, ix_wi_n h2]; rfl
  obtain ⟨i, hi, rfl⟩ := sq_itN (by omega) h2
  have g0 : (40 : Int32) * Int32.ofNat q = Int32.ofNat (40 * q) := ix_Lmul q 40
  have hii : am_in (Int32.ofNat i) 40 := (ix_in (by omega)).mpr (by omega)
  have hni : (Int32.ofNat i).toNatClampNeg = i := ix_nat (by omega)
  have hi2 : am_in (Int32.ofNat (40 * q + i)) 160 := (ix_in (by omega)).mpr (by omega)
  have hn2 : (Int32.ofNat (40 * q + i)).toNatClampNeg = 40 * q + i := ix_nat (by omega)
  obtain ⟨x, ex⟩ : ∃ x, x = sq_nw (s.1 72 q) c := ⟨_, rfl⟩
  obtain ⟨s1, e1⟩ : ∃ s1, s1 = am_sL s (75 + q) i x.toInt64 := ⟨_, rfl⟩
  obtain ⟨s2, e2⟩ : ∃ s2, s2 = am_sI s1 95 (40 * q + i) x := ⟨_, rfl⟩
  have q1 : s1.1 = s.1 := by rw [e1]; rfl
  have q2 : ∀ z, z ≠ 95 → s2.1 z = s.1 z := fun z hz => by rw [e2, ix_sIn hz, q1]
  refine ⟨1, s1, s2, ?_, ?_, jz_keepH j (fun k j hk => by unfold sq_pSH at hk; simp at hk; rw [q2 k (by omega)]) ⟨by rw [q2 83 (by omega)]; exact j.1.1, by rw [q2 83 (by omega)]; exact sq_R_fr (fun k h1 h2 => q2 k (by omega)) j.1.2⟩ (fun p hp => ?_)⟩
  · simp only [F_X11_write_0, cz_isSheet, ix_wi_p h1, ix_b1, ix_10, if_false, hn]
    rw [if_pos hi4, if_neg hk1, cz_hasItem hq4, e73, ix_wi_p h2, ix_b1]
    dsimp only
    rw [if_neg z1, if_pos hi4, if_pos hi4, cz_narrowed, ix_b1, if_pos hii, ← ex, hni, ← e1]
  · simp only [F_X12_write_82, mz_isOne, ix_wi_p h1, ix_b1, ix_10, if_false, hn]
    rw [q1, if_pos hi4, if_pos hk2, if_pos hi4, ix_mw0, e94, ix_wi_p h2, ix_b1]
    dsimp only
    rw [if_neg z1, if_pos hi4, mz_narrowed, ix_b1, g0, ix_add, if_pos hi2, q1, ← b1, ← ex, hn2, ← e2]
  · rw [q2 72 (by omega), q2 73 (by omega), q2 93 (by omega), q2 94 (by omega)]
    obtain ⟨c1, c2, c3, c4, c5⟩ := j.2.2.2.2.1 p hp
    refine ⟨c1, c2, c3, c4, fun w hw => ?_⟩
    have es : s2.2 = s1.2 := by rw [e2]; rfl
    rw [es, e1, e2]
    by_cases hpw : p = q ∧ w = i
    · obtain ⟨rfl, rfl⟩ := hpw
      rw [ix_sLs, ix_sIs, ix_64]
    · rw [ix_sLn (by omega), ix_sIj (by omega), q1]; exact c5 w hw
theorem cz_refusalAs {q : Nat} {k : Int32} {s : am_S} (hq : q < 4) : F_X11_refusalAs_0 (Int32.ofNat q) k s = some (if s.1 72 q = -1 then -11 else if s.1 72 q = k then 0 else -13, s) := by
  have hi4 : am_in (Int32.ofNat q) 4 := (ix_in (by omega)).mpr (by omega)
  unfold F_X11_refusalAs_0
  have hn : (Int32.ofNat q).toNatClampNeg = q := ix_nat (by omega)
  rw [if_pos hi4]
  simp only [hn]
  rw [if_pos hi4]
  by_cases h1 : s.1 72 q = -1
  · rw [if_pos h1, if_pos h1]
  · rw [if_neg h1, if_neg h1]
    split <;> rfl
theorem mz_whyNot {q : Nat} {k : Int32} {s : am_S} (j : jz_H s) (hq : q < 4) : F_X12_whyNot_82 (Int32.ofNat q) k s = some (if s.1 72 q = -1 then -11 else if s.1 72 q = k then 0 else -13, s) := by
  have hi4 : am_in (Int32.ofNat q) 4 := (ix_in (by omega)).mpr (by omega)
  obtain ⟨b1, b2, -⟩ := j q hq
  unfold F_X12_whyNot_82
  have hn : (Int32.ofNat q).toNatClampNeg = q := ix_nat (by omega)
  rw [if_pos hi4]
  simp only [hn]
  rw [if_pos hi4, ← b1]
  rcases b2 with hk | ⟨z, hz, ez⟩
  · rw [if_neg (by rw [hk]; decide), if_pos hk]
  · rw [if_pos (by rw [ez, ix_Lle (by omega) (by omega)]; omega), if_neg (show ¬ s.1 72 q = -1 by rw [ez]; exact ix_neg (by omega))]
    split <;> rfl
theorem ag_item {a k b : Int32} : jz_A (F_X11_item_0 a k b) (F_X12_item_82 a k b) := by
  intro s j
  have z1 : ¬ (1 : Int32) = 0 := by decide
  by_cases h1 : (0 : Int32) ≤ a ∧ a ≤ 3
  rotate_left
  · exact jz_A0 (v := -1) j (by simp only [F_X11_item_0, cz_isSheet, ix_wi_n h1, ix_b1, ix_10, ix_00, if_true, if_false]) (by simp only [F_X12_item_82, mz_isOne, ix_wi_n h1, ix_b1, ix_10, ix_00, if_true, if_false])
  by_cases h2 : (0 : Int32) ≤ k ∧ k ≤ 4
  rotate_left
  · exact jz_A0 (v := -1) j (by simp only [F_X11_item_0, cz_isSheet, cz_isSort, ix_wi_p h1, ix_wi_n h2, ix_b1, ix_10, ix_00, if_true, if_false]) (by simp only [F_X12_item_82, mz_isOne, mz_in0x4, ix_wi_p h1, ix_wi_n h2, ix_b1, ix_10, ix_00, if_true, if_false])
  obtain ⟨q, -, hq, rfl⟩ := ix_rng (a := 0) (b := 3) (by omega) (by omega) h1
  have hq4 : q < 4 := by omega
  have hi4 : am_in (Int32.ofNat q) 4 := (ix_in (by omega)).mpr (by omega)
  have hn : (Int32.ofNat q).toNatClampNeg = q := ix_nat (by omega)
  obtain ⟨b1, b2, b3, ⟨n, hn40, e73⟩, b5⟩ := j.2.2.2.2.1 q hq4
  have e94 : s.1 94 q = Int32.ofNat n := by rw [← b3, e73]
  have hw := mz_whyNot (k := k) j.2.2.2.2.1 hq4
  obtain ⟨r, er⟩ : ∃ r : Int32, r = if s.1 72 q = -1 then -11 else if s.1 72 q = k then 0 else -13 := ⟨_, rfl⟩
  have hw2 := cz_refusalAs (k := k) (s := s) hq4
  rw [← er] at hw hw2
  by_cases hr : r = 0
  rotate_left
  · refine jz_A0 (v := r) j ?_ ?_
    · simp only [F_X11_item_0, cz_isSheet, cz_isSort, ix_wi_p h1, ix_wi_p h2, ix_b1, ix_10, if_false, hn]
      rw [hw2, ix_b1, if_neg hr]
    · simp only [F_X12_item_82, mz_isOne, mz_in0x4, ix_wi_p h1, ix_wi_p h2, ix_b1, ix_10, if_false, hn]
      rw [hw, ix_b1, if_neg hr]
  by_cases h3 : 0 ≤ b ∧ b ≤ Int32.ofNat n - 1
  rotate_left
  · refine jz_A0 (v := -12) j ?_ ?_
    · simp only [F_X11_item_0, cz_isSheet, cz_isSort, ix_wi_p h1, ix_wi_p h2, ix_b1, ix_10, if_false, hn]
      rw [hw2, ix_b1, if_pos hr, cz_hasItem hq4, e73, ix_wi_n h3]; rfl
    · simp only [F_X12_item_82, mz_isOne, mz_in0x4, ix_wi_p h1, ix_wi_p h2, ix_b1, ix_10, if_false, hn]
      rw [hw, ix_b1, if_pos hr, if_pos hi4, ix_mw0, e94, ix_wi_n h3]; rfl
  obtain ⟨i, hi, rfl⟩ := sq_itN (by omega) h3
  have g0 : (40 : Int32) * Int32.ofNat q = Int32.ofNat (40 * q) := ix_Lmul q 40
  have hii : am_in (Int32.ofNat i) 40 := (ix_in (by omega)).mpr (by omega)
  have hni : (Int32.ofNat i).toNatClampNeg = i := ix_nat (by omega)
  have hi2 : am_in (Int32.ofNat (40 * q + i)) 160 := (ix_in (by omega)).mpr (by omega)
  have hn2 : (Int32.ofNat (40 * q + i)).toNatClampNeg = 40 * q + i := ix_nat (by omega)
  refine jz_A0 (v := s.1 95 (40 * q + i)) j ?_ ?_
  · simp only [F_X11_item_0, cz_isSheet, cz_isSort, ix_wi_p h1, ix_wi_p h2, ix_b1, ix_10, if_false, hn]
    rw [hw2, ix_b1, if_pos hr, cz_hasItem hq4, e73, ix_wi_p h3, ix_b1]
    dsimp only
    rw [if_neg z1, if_pos hi4, if_pos hii, hni, b5 i (by omega)]
  · simp only [F_X12_item_82, mz_isOne, mz_in0x4, ix_wi_p h1, ix_wi_p h2, ix_b1, ix_10, if_false, hn]
    rw [hw, ix_b1, if_pos hr, if_pos hi4, ix_mw0, e94, ix_wi_p h3, ix_b1]
    dsimp only
    rw [if_neg z1, g0, ix_add, if_pos hi2, hn2]
