/-! LAYER 2: shelves: shelf, taken agree (written by hand) -/
def sq_pSL (k j : Nat) : Bool := sq_pS k j || (79 ≤ k && k < 82) || (96 ≤ k && k < 99)
theorem jz_keepL {s t : am_S} (j : jz_J s) (f : ix_F2 sq_pSL s t) (js : jz_S t) (jL : jz_L t) : jz_J t := by
  obtain ⟨-, jK, jT, jR, jH, -, jG, jN⟩ := j
  refine ⟨js, jz_K_fr (fun k q h => f.1 k q ?_) jK, jz_T_fr (fun k q h => f.1 k q ?_) jT, jz_R_fr (fun k q h => f.1 k q ?_) jR, jz_H_fr (fun k q h => f.1 k q ?_) f.2 jH, jL, jz_G_fr (fun k q h => f.1 k q ?_) jG, jz_N_fr (fun k q h => f.1 k q ?_) jN⟩
  · rcases h with h | rfl | ⟨rfl, rfl⟩ | ⟨rfl, rfl⟩
    · unfold sq_pSL; rw [sq_pS_a h.1 h.2]; simp; omega
    all_goals rfl
  · rcases h with rfl | rfl | ⟨rfl, rfl⟩ | ⟨rfl, rfl⟩
    all_goals rfl
  · rcases h with h | rfl | ⟨rfl, rfl⟩ | ⟨rfl, rfl⟩
    · unfold sq_pSL; rw [sq_pS_b h.1 h.2]; simp; omega
    all_goals rfl
  · rcases h with rfl | rfl | rfl | rfl | rfl
    all_goals rfl
  · rcases h with rfl | rfl | ⟨rfl, rfl⟩ | ⟨rfl, rfl⟩
    all_goals rfl
  · rcases h with rfl | rfl
    all_goals rfl
theorem cz_putOn {q : Nat} {x y z : Int32} {s : am_S} (hq : q < 4) : F_X11_putOn_0 (Int32.ofNat q) x y z s = some (1, am_sI (am_sI (am_sI s 79 q x) 80 q y) 81 q z) := by
  have hi4 : am_in (Int32.ofNat q) 4 := (ix_in (by omega)).mpr (by omega)
  have hn : (Int32.ofNat q).toNatClampNeg = q := ix_nat (by omega)
  unfold F_X11_putOn_0
  rw [if_pos hi4]
  simp only [hn]
  rw [ix_b1, if_pos hi4, ix_b1, if_pos hi4, ix_b1]
/-- something is put on a shelf on both sides -/
theorem jz_put {s : am_S} {q : Nat} {x y z a b c : Int32} (j : jz_J s) (hq : q < 4) (h : (x = 0 ∧ a = 1 ∧ y = b ∧ sq_N y 5) ∨ (x = 1 ∧ a = 2 ∧ y = c ∧ sq_N y 4 ∧ z = b) ∨ (x = 2 ∧ a = 0)) : jz_J (am_sI (am_sI (am_sI (am_sI (am_sI (am_sI s 79 q x) 80 q y) 81 q z) 96 q a) 97 q b) 98 q c) := by
  obtain ⟨s1, e1⟩ : ∃ s1, s1 = am_sI (am_sI (am_sI s 79 q x) 80 q y) 81 q z := ⟨_, rfl⟩
  obtain ⟨s2, e2⟩ : ∃ s2, s2 = am_sI (am_sI (am_sI s1 96 q a) 97 q b) 98 q c := ⟨_, rfl⟩
  rw [← e1, ← e2]
  have f1 : ix_F2 sq_pSL s s1 := by rw [e1]; exact ((ix_F2.I (by rfl)).tr (ix_F2.I (by rfl))).tr (ix_F2.I (by rfl))
  have f2 : ix_F2 sq_pSL s1 s2 := by rw [e2]; exact ((ix_F2.I (by rfl)).tr (ix_F2.I (by rfl))).tr (ix_F2.I (by rfl))
  have n2 : ∀ k, k ≠ 79 → k ≠ 80 → k ≠ 81 → k ≠ 96 → k ≠ 97 → k ≠ 98 → s2.1 k = s.1 k := fun k h1 h2 h3 h4 h5 h6 => by
    rw [e2, ix_sIn h6, ix_sIn h5, ix_sIn h4, e1, ix_sIn h3, ix_sIn h2, ix_sIn h1]
  have h83 := n2 83 (by decide) (by decide) (by decide) (by decide) (by decide) (by decide)
  refine jz_keepL j (f1.tr f2) ⟨by rw [h83]; exact j.1.1, by rw [h83]; exact sq_R_fr (fun k h1 h2 => n2 k (by omega) (by omega) (by omega) (by omega) (by omega) (by omega)) j.1.2⟩ (fun p hp => ?_)
  have c79 : s2.1 79 p = if p = q then x else s.1 79 p := by
    rw [e2, ix_sIn (by decide), ix_sIn (by decide), ix_sIn (by decide), e1, ix_sIn (by decide), ix_sIn (by decide), ix_sI1]
  have c80 : s2.1 80 p = if p = q then y else s.1 80 p := by
    rw [e2, ix_sIn (by decide), ix_sIn (by decide), ix_sIn (by decide), e1, ix_sIn (by decide), ix_sI1, ix_sIn (by decide)]
  have c81 : s2.1 81 p = if p = q then z else s.1 81 p := by
    rw [e2, ix_sIn (by decide), ix_sIn (by decide), ix_sIn (by decide), e1, ix_sI1, ix_sIn (by decide), ix_sIn (by decide)]
  have c96 : s2.1 96 p = if p = q then a else s.1 96 p := by
    rw [e2, ix_sIn (by decide), ix_sIn (by decide), ix_sI1, e1, ix_sIn (by decide), ix_sIn (by decide), ix_sIn (by decide)]
  have c97 : s2.1 97 p = if p = q then b else s.1 97 p := by
    rw [e2, ix_sIn (by decide), ix_sI1, ix_sIn (by decide), e1, ix_sIn (by decide), ix_sIn (by decide), ix_sIn (by decide)]
  have c98 : s2.1 98 p = if p = q then c else s.1 98 p := by
    rw [e2, ix_sI1, ix_sIn (by decide), ix_sIn (by decide), e1, ix_sIn (by decide), ix_sIn (by decide), ix_sIn (by decide)]
  rw [c79, c80, c81, c96, c97, c98]
  by_cases hpq : p = q
  · simp only [if_pos hpq]; exact h
  · simp only [if_neg hpq]; exact j.2.2.2.2.2.1 p hp
theorem mz_sh106 {q : Nat} {x2 x3 y0 : Int32} {s : am_S} (hq : q < 4) (h : x2 = 1 → ∃ p, p < 4 ∧ x3 = Int32.ofNat p) : F_X12_shelf_82_b106 (Int32.ofNat q) x2 x3 y0 (Int32.ofNat q) s = some (1, am_sI (am_sI s 97 q y0) 98 q (if x2 = 1 then s.1 93 x3.toNatClampNeg else 0)) := by
  have hi4 : am_in (Int32.ofNat q) 4 := (ix_in (by omega)).mpr (by omega)
  have hn : (Int32.ofNat q).toNatClampNeg = q := ix_nat (by omega)
  unfold F_X12_shelf_82_b106
  rw [if_pos hi4]
  simp only [hn]
  rw [ix_b1]
  by_cases h2 : x2 = 1
  · obtain ⟨p, hp, rfl⟩ := h h2
    have hp4 : am_in (Int32.ofNat p) 4 := (ix_in (by omega)).mpr (by omega)
    rw [if_pos h2, if_pos hp4, if_pos hi4, ix_b1, if_pos h2, ix_sIn (by decide)]
  · rw [if_neg h2, if_pos hi4, ix_b1, if_neg h2]
theorem ag_shelf {a b c : Int32} : jz_A (F_X11_shelf_0 a b c) (F_X12_shelf_82 a b c) := by
  intro s j
  obtain ⟨ok, R⟩ := j.1
  have z1 : ¬ (1 : Int32) = 0 := by decide
  by_cases h1 : (0 : Int32) ≤ a ∧ a ≤ 3
  rotate_left
  · exact jz_A0 (v := -1) j (by simp only [F_X11_shelf_0, cz_isShelf, ix_wi_n h1, ix_b1, ix_10, ix_00, if_true, if_false]) (by simp only [F_X12_shelf_82, mz_isOne, ix_wi_n h1, ix_b1, ix_10, ix_00, if_true, if_false])
  obtain ⟨q, -, hq, rfl⟩ := ix_rng (a := 0) (b := 3) (by omega) (by omega) h1
  have hq4 : q < 4 := by omega
  have hi4 : am_in (Int32.ofNat q) 4 := (ix_in (by omega)).mpr (by omega)
  have hn : (Int32.ofNat q).toNatClampNeg = q := ix_nat (by omega)
  by_cases h2 : (0 : Int32) ≤ b ∧ b ≤ 2
  rotate_left
  · have k0 : ¬ b = 0 := fun z => h2 (by rw [z]; decide)
    have k1 : ¬ b = 1 := fun z => h2 (by rw [z]; decide)
    have k2 : ¬ b = 2 := fun z => h2 (by rw [z]; decide)
    refine jz_A0 (v := -1) j ?_ ?_
    · rw [F_X11_shelf_0, cz_isShelf, ix_b1, ix_wi_p h1]
      dsimp only
      rw [if_neg z1, if_neg k0, if_neg k1, if_neg k2]
    · rw [F_X12_shelf_82, mz_isOne, ix_b1, ix_wi_p h1]
      dsimp only
      rw [if_neg z1, mz_in0x2, ix_b1, ix_wi_n h2]; rfl
  obtain ⟨w, -, hw, rfl⟩ := ix_rng (a := 0) (b := 2) (by omega) (by omega) h2
  have hC : ∀ r, (if Int32.ofNat w = (0 : Int32) then ((F_X8_has_8 c s).bind fun q5 => (if q5.1 = (0 : Int32) then (some ((-1 : Int32), q5.2)) else ((F_X11_putOn_0 (Int32.ofNat q) (0 : Int32) c (0 : Int32) q5.2).bind fun q8 => (some (q8.1, q8.2))))) else (if Int32.ofNat w = (1 : Int32) then ((F_X11_isSheet c s).bind fun q11 => (if q11.1 = (0 : Int32) then (some ((-1 : Int32), q11.2)) else ((F_X11_putRowOn_0 (Int32.ofNat q) c q11.2).bind fun q14 => (some (q14.1, q14.2))))) else (if Int32.ofNat w = (2 : Int32) then ((F_X11_putOn_0 (Int32.ofNat q) (2 : Int32) (0 : Int32) (0 : Int32) s).bind fun q17 => (some (q17.1, q17.2))) else (some ((-1 : Int32), s))))) = r → F_X11_shelf_0 (Int32.ofNat q) (Int32.ofNat w) c s = r := by
    intro r hr
    rw [F_X11_shelf_0, cz_isShelf, ix_b1, ix_wi_p h1]
    dsimp only
    rw [if_neg z1]; exact hr
  have hM : ∀ (s1 : am_S) r, (if Int32.ofNat w = (0 : Int32) then ((F_X12_isVoice_82 c s1).bind fun q8 => (if q8.1 = (0 : Int32) then (some ((-1 : Int32), q8.2)) else (F_X12_shelf_82_b31 (Int32.ofNat q) (Int32.ofNat w) c q8.2))) else (F_X12_shelf_82_b31 (Int32.ofNat q) (Int32.ofNat w) c s1)) = r → F_X12_shelf_82 (Int32.ofNat q) (Int32.ofNat w) c s1 = r := by
    intro s1 r hr
    rw [F_X12_shelf_82, mz_isOne, ix_b1, ix_wi_p h1]
    dsimp only
    rw [if_neg z1, mz_in0x2, ix_b1, ix_wi_p h2]
    dsimp only
    rw [if_neg z1]; exact hr
  have hw3 : w = 0 ∨ w = 1 ∨ w = 2 := by omega
  rcases hw3 with rfl | rfl | rfl
  · have e0 : Int32.ofNat 0 = (0 : Int32) := rfl
    have e01 : ¬ Int32.ofNat 0 = (1 : Int32) := by decide
    by_cases hv : 0 ≤ c ∧ c < s.1 83 0
    rotate_left
    · refine jz_A0 (v := -1) j (hC _ ?_) (hM s _ ?_)
      · rw [if_pos e0, cz_has R, if_neg hv]; rfl
      · rw [if_pos e0, mz_isVoice ok, if_neg hv]; rfl
    obtain ⟨hc, h0⟩ := sq_cn_ok ok
    have hcN : sq_N c 5 := by
      have hv2 := hv.2
      rw [h0] at hv2
      obtain ⟨n, hn, rfl⟩ := ix_of2 (b := sq_cn (s.1 83)) (by omega) hv.1 (by rw [ix_lt'] at hv2; rw [ix_le']; omega)
      rw [ix_lt (by omega) (by omega)] at hv2
      exact ⟨n, by omega, rfl⟩
    obtain ⟨s1, e1⟩ : ∃ s1, s1 = am_sI (am_sI (am_sI s 79 q 0) 80 q c) 81 q 0 := ⟨_, rfl⟩
    have h831 : s1.1 83 = s.1 83 := by rw [e1, ix_sIn (by decide), ix_sIn (by decide), ix_sIn (by decide)]
    refine ⟨1, s1, am_sI (am_sI (am_sI s1 96 q 1) 97 q c) 98 q 0, hC _ ?_, hM s1 _ ?_, ?_⟩
    · rw [if_pos e0, cz_has R, if_pos hv, ix_b1]
      dsimp only
      rw [if_neg z1, cz_putOn hq4, ix_b1, e1]
    · rw [if_pos e0, mz_isVoice (by rw [h831]; exact ok), h831, if_pos hv, ix_b1]
      dsimp only
      rw [if_neg z1, F_X12_shelf_82_b31, if_neg e01, F_X12_shelf_82_b45, if_pos e0, F_X12_shelf_82_b77, if_pos hi4]
      simp only [hn]
      rw [ix_b1, if_pos e0, mz_sh106 hq4 (fun z => absurd z e01), if_neg e01]
    · rw [e1]; exact jz_put j hq4 (Or.inl ⟨rfl, rfl, rfl, hcN⟩)
  · have e10 : ¬ Int32.ofNat 1 = (0 : Int32) := by decide
    have e1' : Int32.ofNat 1 = (1 : Int32) := rfl
    by_cases hs : (0 : Int32) ≤ c ∧ c ≤ 3
    rotate_left
    · refine jz_A0 (v := -1) j (hC _ ?_) (hM s _ ?_)
      · rw [if_neg e10, if_pos e1', cz_isSheet, ix_wi_n hs]; rfl
      · rw [if_neg e10, F_X12_shelf_82_b31, if_pos e1', mz_isOne, ix_wi_n hs]; rfl
    obtain ⟨p, -, hp, rfl⟩ := ix_rng (a := 0) (b := 3) (by omega) (by omega) hs
    have hp4 : am_in (Int32.ofNat p) 4 := (ix_in (by omega)).mpr (by omega)
    have hnp : (Int32.ofNat p).toNatClampNeg = p := ix_nat (by omega)
    obtain ⟨b1, b2, b3, b4, -⟩ := j.2.2.2.2.1 p (by omega)
    by_cases hk : s.1 72 p = -1
    · obtain ⟨s1, es1⟩ : ∃ s1, s1 = am_sI (am_sI (am_sI s 79 q 2) 80 q 0) 81 q 0 := ⟨_, rfl⟩
      have n1 : ∀ k, 90 ≤ k → s1.1 k = s.1 k := fun k hk => by rw [es1, ix_sIn (by omega), ix_sIn (by omega), ix_sIn (by omega)]
      have hlt : s.1 93 p < 0 := by rw [← b1, hk]; decide
      refine ⟨1, s1, am_sI (am_sI (am_sI s1 96 q 0) 97 q (s.1 94 p)) 98 q (s.1 93 p), hC _ ?_, hM s1 _ ?_, ?_⟩
      · rw [if_neg e10, if_pos e1', cz_isSheet, ix_b1, ix_wi_p hs]
        dsimp only
        rw [if_neg z1, F_X11_putRowOn_0, if_pos hp4]
        simp only [hnp]
        rw [if_pos hk, cz_putOn hq4, ix_b1, ix_b1, es1]
      · rw [if_neg e10, F_X12_shelf_82_b31, if_pos e1', mz_isOne, ix_b1, ix_wi_p hs]
        dsimp only
        rw [if_neg z1, F_X12_shelf_82_b45, if_neg e10, if_pos e1', if_pos hp4, hnp, n1 93 (by omega), if_pos hlt, F_X12_shelf_82_b76, F_X12_shelf_82_b77, if_pos hi4]
        simp only [hn, hnp]
        rw [ix_b1, if_neg e10, if_pos e1', if_pos hp4, ix_sIn (by decide), n1 94 (by omega), mz_sh106 hq4 (fun _ => ⟨p, by omega, rfl⟩), if_pos e1', hnp, ix_sIn (by decide), n1 93 (by omega)]
      · rw [es1]; exact jz_put j hq4 (Or.inr (Or.inr ⟨rfl, rfl⟩))
    · obtain ⟨s1, es1⟩ : ∃ s1, s1 = am_sI (am_sI (am_sI s 79 q 1) 80 q (s.1 72 p)) 81 q (s.1 73 p) := ⟨_, rfl⟩
      have n1 : ∀ k, 90 ≤ k → s1.1 k = s.1 k := fun k hk => by rw [es1, ix_sIn (by omega), ix_sIn (by omega), ix_sIn (by omega)]
      have hkN : sq_N (s.1 72 p) 4 := b2.resolve_left hk
      have hlt : ¬ s.1 93 p < 0 := by obtain ⟨z, hz, ez⟩ := hkN; rw [← b1, ez]; exact ix_nn (by omega)
      refine ⟨1, s1, am_sI (am_sI (am_sI s1 96 q 2) 97 q (s.1 94 p)) 98 q (s.1 93 p), hC _ ?_, hM s1 _ ?_, ?_⟩
      · rw [if_neg e10, if_pos e1', cz_isSheet, ix_b1, ix_wi_p hs]
        dsimp only
        rw [if_neg z1, F_X11_putRowOn_0, if_pos hp4]
        simp only [hnp]
        rw [if_neg hk, if_pos hp4, if_pos hp4, cz_putOn hq4, ix_b1, ix_b1, es1]
      · rw [if_neg e10, F_X12_shelf_82_b31, if_pos e1', mz_isOne, ix_b1, ix_wi_p hs]
        dsimp only
        rw [if_neg z1, F_X12_shelf_82_b45, if_neg e10, if_pos e1', if_pos hp4, hnp, n1 93 (by omega), if_neg hlt, F_X12_shelf_82_b77, if_pos hi4]
        simp only [hn, hnp]
        rw [ix_b1, if_neg e10, if_pos e1', if_pos hp4, ix_sIn (by decide), n1 94 (by omega), mz_sh106 hq4 (fun _ => ⟨p, by omega, rfl⟩), if_pos e1', hnp, ix_sIn (by decide), n1 93 (by omega)]
      · rw [es1]; exact jz_put j hq4 (Or.inr (Or.inl ⟨rfl, rfl, b1, hkN, b3⟩))
  · have e20 : ¬ Int32.ofNat 2 = (0 : Int32) := by decide
    have e21 : ¬ Int32.ofNat 2 = (1 : Int32) := by decide
    have e22 : Int32.ofNat 2 = (2 : Int32) := rfl
    obtain ⟨s1, es1⟩ : ∃ s1, s1 = am_sI (am_sI (am_sI s 79 q 2) 80 q 0) 81 q 0 := ⟨_, rfl⟩
    refine ⟨1, s1, am_sI (am_sI (am_sI s1 96 q 0) 97 q 0) 98 q 0, hC _ ?_, hM s1 _ ?_, ?_⟩
    · rw [if_neg e20, if_neg e21, if_pos e22, cz_putOn hq4, ix_b1, es1]
    · rw [if_neg e20, F_X12_shelf_82_b31, if_neg e21, F_X12_shelf_82_b45, if_neg e20, if_neg e21, F_X12_shelf_82_b76, F_X12_shelf_82_b77, if_pos hi4]
      simp only [hn]
      rw [ix_b1, if_neg e20, if_neg e21, mz_sh106 hq4 (fun z => absurd z e21), if_neg e21]
    · rw [es1]; exact jz_put j hq4 (Or.inr (Or.inr ⟨rfl, rfl⟩))
