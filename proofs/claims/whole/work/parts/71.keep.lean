/-! LAYER 2: keep, again, feed agree (written by hand) -/
theorem mz_keepL : ∀ (l v f : Nat) (s : am_S), v + l = 296 → l < f → ∃ s', F_X12_keep_82_b2 f (Int32.ofNat v) s = some (1, s') ∧ (∀ q, s'.1 84 q = if v ≤ q ∧ q < 296 then s.1 83 q else s.1 84 q) ∧ s'.1 82 3 = 1 ∧ ix_F2 (fun k j => k == 84 || (k == 82 && j == 3)) s s' := by
  intro l
  induction l with
  | zero =>
    intro v f s hl hf
    obtain ⟨f, rfl⟩ : ∃ g, f = g + 1 := ⟨f - 1, by omega⟩
    refine ⟨am_sI s 82 3 1, ?_, fun q => by rw [if_neg (by omega), ix_sIn (by decide)], ix_sIs, ix_F2.I (by rfl)⟩
    rw [F_X12_keep_82_b2, if_pos (by rw [ix_Lle (by omega) (by omega)]; omega), ix_b1]
  | succ l ih =>
    intro v f s hl hf
    obtain ⟨f, rfl⟩ : ∃ g, f = g + 1 := ⟨f - 1, by omega⟩
    have hi : am_in (Int32.ofNat v) 296 := (ix_in (by omega)).mpr (by omega)
    obtain ⟨s', i1, i2, i3, i4⟩ := ih (v + 1) f (am_sI s 84 v (s.1 83 v)) (by omega) (by omega)
    refine ⟨s', ?_, fun q => ?_, i3, (ix_F2.I (by rfl)).tr i4⟩
    · rw [F_X12_keep_82_b2, if_neg (by rw [ix_Lle (by omega) (by omega)]; omega), if_pos hi, if_pos hi, ix_nat (by omega), ix_b1, ix_addL, i1]
    · rw [i2 q, ix_sIn (k := 84) (k1 := 83) (by decide), ix_sI1]
      by_cases h : q = v
      · subst h; rw [if_neg (by omega), if_pos rfl, if_pos (by omega)]
      · by_cases h2 : v + 1 ≤ q ∧ q < 296
        · rw [if_pos h2, if_pos (by omega)]
        · rw [if_neg h2, if_neg h, if_neg (by omega)]
theorem mz_againL : ∀ (l v f : Nat) (s : am_S), v + l = 296 → l < f → (v = 0 ∨ s.1 83 0 = s.1 84 0) → ∃ s', F_X12_again_82_b12 f (Int32.ofNat v) s = some (s.1 84 0, s') ∧ (∀ q, s'.1 83 q = if v ≤ q ∧ q < 296 then s.1 84 q else s.1 83 q) ∧ ix_Fr (fun q => q == 83) s s' := by
  intro l
  induction l with
  | zero =>
    intro v f s hl hf h0
    obtain ⟨f, rfl⟩ : ∃ g, f = g + 1 := ⟨f - 1, by omega⟩
    have n0 : (0 : Int32).toNatClampNeg = 0 := rfl
    refine ⟨s, ?_, fun q => by rw [if_neg (by omega)], ix_Fr.rf⟩
    rw [F_X12_again_82_b12, if_pos (by rw [ix_Lle (by omega) (by omega)]; omega), if_pos ix_k0, n0, h0.resolve_left (by omega)]
  | succ l ih =>
    intro v f s hl hf h0
    obtain ⟨f, rfl⟩ : ∃ g, f = g + 1 := ⟨f - 1, by omega⟩
    have hi : am_in (Int32.ofNat v) 296 := (ix_in (by omega)).mpr (by omega)
    obtain ⟨s', i1, i2, i3⟩ := ih (v + 1) f (am_sI s 83 v (s.1 84 v)) (by omega) (by omega) (Or.inr (by
      rw [ix_sI1, ix_sIn (k := 83) (k1 := 84) (by decide)]
      by_cases hv : 0 = v
      · rw [if_pos hv, hv]
      · rw [if_neg hv]; exact h0.resolve_left (fun z => hv z.symm)))
    refine ⟨s', ?_, fun q => ?_, (ix_Fr.I (by rfl)).tr i3⟩
    · rw [F_X12_again_82_b12, if_neg (by rw [ix_Lle (by omega) (by omega)]; omega), if_pos hi, if_pos hi, ix_nat (by omega), ix_b1, ix_addL, i1, ix_sIn (by decide)]
    · rw [i2 q, ix_sIn (k := 83) (k1 := 84) (by decide), ix_sI1]
      by_cases h : q = v
      · subst h; rw [if_neg (by omega), if_pos rfl, if_pos (by omega)]
      · by_cases h2 : v + 1 ≤ q ∧ q < 296
        · rw [if_pos h2, if_pos (by omega)]
        · rw [if_neg h2, if_neg h, if_neg (by omega)]
def sq_pSK (k j : Nat) : Bool := sq_pS k j || (24 ≤ k && k < 39) || k == 84 || (k == 0 && j == 2) || (k == 82 && j == 3)
theorem jz_keepK {s t : am_S} (j : jz_J s) (f : ix_F2 sq_pSK s t) (js : jz_S t) (jK : jz_K t) : jz_J t := by
  obtain ⟨-, -, jT, jR, jH, jL, jG, jN⟩ := j
  refine ⟨js, jK, jz_T_fr (fun k q h => f.1 k q ?_) jT, jz_R_fr (fun k q h => f.1 k q ?_) jR, jz_H_fr (fun k q h => f.1 k q ?_) f.2 jH, jz_L_fr (fun k q h => f.1 k q ?_) jL, jz_G_fr (fun k q h => f.1 k q ?_) jG, jz_N_fr (fun k q h => f.1 k q ?_) jN⟩
  · rcases h with rfl | rfl | ⟨rfl, rfl⟩ | ⟨rfl, rfl⟩
    all_goals rfl
  · rcases h with h | rfl | ⟨rfl, rfl⟩ | ⟨rfl, rfl⟩
    · unfold sq_pSK; rw [sq_pS_b h.1 h.2]; simp; omega
    all_goals rfl
  · rcases h with rfl | rfl | rfl | rfl | rfl
    all_goals rfl
  · rcases h with rfl | rfl | rfl | rfl | rfl | rfl
    all_goals rfl
  · rcases h with rfl | rfl | ⟨rfl, rfl⟩ | ⟨rfl, rfl⟩
    all_goals rfl
  · rcases h with rfl | rfl
    all_goals rfl
theorem sq_R24_fr {x x' : Nat → Nat → Int32} {m : Nat → Int32} (h : ∀ k, 24 ≤ k → k < 39 → x' k = x k) (R : sq_R x 24 m) : sq_R x' 24 m := by
  obtain ⟨a0, a1, a2, a3, a4, a5, a6, a7, a8, a9, a10, r0, r1, r2, r3⟩ := R
  have e0 := h 24 (by omega) (by omega)
  refine ⟨by rw [e0]; exact a0, by rw [e0]; exact a1, by rw [e0]; exact a2, by rw [e0]; exact a3, by rw [e0]; exact a4, by rw [e0]; exact a5, by rw [e0]; exact a6, by rw [e0]; exact a7, fun j hj => by rw [h (24 + 1) (by omega) (by omega)]; exact a8 j hj, fun v hv => by rw [h (24 + 2) (by omega) (by omega), h (24 + 3) (by omega) (by omega), h (24 + 4) (by omega) (by omega), h (24 + 5) (by omega) (by omega)]; exact a9 v hv, fun r hr => by rw [h (24 + 6) (by omega) (by omega), h (24 + 7) (by omega) (by omega), h (24 + 8) (by omega) (by omega)]; exact a10 r hr, ?_, ?_, fun r hr => ?_, fun k hk => ?_⟩
  · rw [h (24 + 9) (by omega) (by omega)]; exact r0
  · rw [h (24 + 9) (by omega) (by omega)]; exact r1
  · rw [h (24 + 9 + 1) (by omega) (by omega), h (24 + 9 + 2) (by omega) (by omega), h (24 + 9 + 3) (by omega) (by omega), h (24 + 9 + 4) (by omega) (by omega)]; exact r2 r hr
  · rw [h (24 + 9 + 5) (by omega) (by omega)]; exact r3 k hk
theorem ag_keep : jz_A F_X11_keep_0 F_X12_keep_82 := by
  intro s j
  obtain ⟨ok, R⟩ := j.1
  obtain ⟨t, c1, c2, c3⟩ := cz_bl8_24_8 R ok
  obtain ⟨s1, e1⟩ : ∃ s1, s1 = am_sI t 0 2 1 := ⟨_, rfl⟩
  have g1 : ∀ z, z ≠ 0 → s1.1 z = t.1 z := fun z hz => by rw [e1]; exact ix_sIn hz
  obtain ⟨s2, d1, d2, d3, d4⟩ := mz_keepL 296 0 1000 s1 (by omega) (by omega)
  have h831 : s1.1 83 = s.1 83 := by rw [g1 83 (by decide)]; exact c3.1 83 (by rfl)
  have h832 : s2.1 83 = s.1 83 := by rw [← h831]; exact funext fun q => d4.1 83 q (by rfl)
  have h84 : ∀ q, q < 296 → s2.1 84 q = s.1 83 q := fun q hq => by rw [d2 q, if_pos ⟨Nat.zero_le _, hq⟩, h831]
  have f1 : ix_F2 sq_pSK s s1 := by
    have a1 : ix_F2 sq_pSK s t := c3.F2 (fun k j hk => by unfold sq_pSK sq_pS at hk; simp at hk ⊢; omega)
    have a2 : ix_F2 sq_pSK t s1 := by rw [e1]; exact ix_F2.I (by rfl)
    exact a1.tr a2
  have f2 : ix_F2 sq_pSK s1 s2 := d4.wd (fun k j hk => by unfold sq_pSK sq_pS at hk; simp at hk ⊢; omega)
  have g2 : ∀ z, z < 82 → s2.1 z = s1.1 z := fun z hz => funext fun q => d4.1 z q (by simp; omega)
  refine ⟨1, s1, s2, ?_, d1, jz_keepK j (f1.tr f2) ⟨by rw [h832]; exact ok, by rw [h832]; exact sq_R_fr (fun k h1 h2 => by rw [g2 k (by omega), g1 k (by omega)]; exact c3.1 k (by simp; omega)) R⟩ ⟨?_, Or.inr ⟨?_, sq_Ok_d h84 ok, sq_R24_fr (fun k h1 h2 => by rw [g2 k (by omega), g1 k (by omega)]) (sq_R_d ok h84 c2)⟩⟩⟩
  · rw [F_X11_keep_0, c1, ix_b1, ix_b1, e1]
  · rw [d3, g2 0 (by omega), e1, ix_sIs]
  · rw [g2 0 (by omega), e1, ix_sIs]
theorem ag_again : jz_A F_X11_again_0 F_X12_again_82 := by
  intro s j
  obtain ⟨ok, R⟩ := j.1
  obtain ⟨k1, k2⟩ := j.2.1
  rcases k2 with k2 | ⟨k2, okk, Rk⟩
  · refine jz_A0 (v := -3) j ?_ ?_
    · rw [F_X11_again_0, if_pos k2]
    · rw [F_X12_again_82, if_pos (show s.1 82 3 = 0 by rw [k1]; exact k2)]
  have z1 : ¬ (1 : Int32) = 0 := by decide
  obtain ⟨s1, c1, c2, c3⟩ := cz_bl8_8_24 Rk okk
  have h84 : s1.1 84 = s.1 84 := c3.1 84 (by rfl)
  obtain ⟨s2, d1, d2, d3⟩ := mz_againL 296 0 1000 s1 (by omega) (by omega) (Or.inl rfl)
  have h83 : ∀ q, q < 296 → s2.1 83 q = s.1 84 q := fun q hq => by rw [d2 q, if_pos ⟨Nat.zero_le _, hq⟩, h84]
  have k823 : s1.1 82 3 = 1 := by rw [c3.1 82 (by rfl), k1]; exact k2
  refine ⟨s.1 84 0, s1, s2, ?_, ?_, jz_fin j (sq_R_d okk h83 c2) (c3.F2 (fun k j hk => by unfold sq_pS at hk; simp at hk ⊢; omega)) (d3.F2 (fun k j hk => by unfold sq_pS at hk; simp at hk ⊢; omega)) (fun k _ h => d3.1 k (by simp; omega)) rfl (sq_Ok_d h83 okk)⟩
  · rw [F_X11_again_0, k2, if_neg z1, c1, ix_b1, c2.2.2.2.2.2.1]
  · have d1' : F_X12_again_82_b12 1000 0 s1 = _ := d1
    rw [F_X12_again_82, k823, if_neg z1, d1', h84]
/-! feed -/
def sq_by (x : Int64) (k : Nat) : Int32 := ((x >>> (((8 : Int32) * Int32.ofNat k).toInt64 &&& 63)) &&& (255 : Int64)).toInt32
