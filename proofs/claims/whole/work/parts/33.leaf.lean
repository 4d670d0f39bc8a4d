/-! LAYER 2: the class's leaves over the row m -/
theorem sq_six {k : Nat} (h : k ≤ 5) : k = 0 ∨ k = 1 ∨ k = 2 ∨ k = 3 ∨ k = 4 ∨ k = 5 := by omega
theorem sq_odd : ∀ t, t < 17 → (((Int32.ofNat t) &&& 1) = 1 ↔ ¬ am_rem (Int32.ofNat t) 2 = 0) := by decide +kernel
theorem sq_pq : ∀ n, n < 10 → (if (0 : Int32) < Int32.ofNat n - 2 then Int32.ofNat n - 2 else 0) = (if Int32.ofNat n ≤ 2 then 0 else Int32.ofNat n - 2) := by decide +kernel
section CZ1
variable {s : am_S} {m : Nat → Int32} {v : Nat}
theorem cz_has {x : Int32} (R : sq_R s.1 8 m) : F_X8_has_8 x s = some (if 0 ≤ x ∧ x < m 0 then 1 else 0, s) := by
  unfold F_X8_has_8
  rw [R.2.2.2.2.2.1]
  by_cases h1 : x < 0
  · rw [if_pos h1, if_neg (fun h => by have := h.1; rw [ix_le'] at this; rw [ix_lt'] at h1; omega)]
  · rw [if_neg h1]
    by_cases h2 : m 0 ≤ x
    · rw [if_pos h2, if_neg (fun h => by have := h.2; rw [ix_lt'] at this; rw [ix_le'] at h2; omega)]
    · rw [if_neg h2, if_pos ⟨by rw [ix_le']; rw [ix_lt'] at h1; omega, by rw [ix_lt']; rw [ix_le'] at h2; omega⟩]
theorem cz_caught (R : sq_R s.1 8 m) (ok : sq_Ok m) (hv : v < 6) : F_X8_isCaught_8 (Int32.ofNat v) s = some (m (24 + 5 * v + 4), s) := by
  unfold F_X8_isCaught_8
  rw [R.2.2.2.2.2.2.1, sq_bit _ (sq_cs_lt m) v hv, sq_cs_t m hv]
  obtain ⟨n, hn, e⟩ := (ok.2.2.2.2.2.1 v hv).2.2.2.2
  have : n = 0 ∨ n = 1 := by omega
  rcases this with rfl | rfl
  · rw [e]; rfl
  · rw [e]; rfl
theorem cz_kind (R : sq_R s.1 8 m) (hv : v < 6) : s.1 10 v = m (24 + 5 * v) := (R.2.2.2.2.2.2.2.2.2.1 v hv).1
theorem cz_pitch (R : sq_R s.1 8 m) (hv : v < 6) : s.1 11 v = m (24 + 5 * v + 1) := (R.2.2.2.2.2.2.2.2.2.1 v hv).2.1
theorem cz_str (R : sq_R s.1 8 m) (hv : v < 6) : s.1 12 v = m (24 + 5 * v + 2) := (R.2.2.2.2.2.2.2.2.2.1 v hv).2.2.1
theorem cz_place (R : sq_R s.1 8 m) (hv : v < 6) : s.1 13 v = m (24 + 5 * v + 3) := (R.2.2.2.2.2.2.2.2.2.1 v hv).2.2.2
theorem cz_inv (hv : v < 6) : am_in (Int32.ofNat v) 6 := (ix_in (by omega)).mpr hv
theorem cz_thing (R : sq_R s.1 8 m) (ok : sq_Ok m) (hv : v < 6) : ∃ k, k ≤ 5 ∧ m (24 + 5 * v) = Int32.ofNat k ∧ F_X8_thing_8 (Int32.ofNat v) s = some (k, s) := by
  obtain ⟨k, hk, e⟩ := (ok.2.2.2.2.2.1 v hv).1
  refine ⟨k, hk, e, ?_⟩
  unfold F_X8_thing_8
  rw [if_pos (cz_inv hv), ix_nat (by omega), cz_kind R hv, e, if_pos (cz_inv (by omega)), ix_nat (by omega)]
theorem cz_drift (R : sq_R s.1 8 m) (ok : sq_Ok m) (hv : v < 6) : F_X8_driftOf_8 (Int32.ofNat v) s = some (sq_dr (m (24 + 5 * v)) (m (24 + 5 * v + 2)) (m 3), s) := by
  obtain ⟨k, hk, e, h⟩ := cz_thing R ok hv
  obtain ⟨t, en, h1, h2, h3, ht, -⟩ := ok.2.1
  unfold F_X8_driftOf_8
  rw [h, ix_b1, if_pos (cz_inv hv), ix_nat (by omega)]
  dsimp only
  rw [cz_str R hv, R.1, e]
  rcases sq_six hk with rfl | rfl | rfl | rfl | rfl | rfl
  · rfl
  · rfl
  · by_cases h5 : m (24 + 5 * v + 2) ≤ 5
    · simp [F_X5_drifts_4, F_X10_drifts_4, sq_dr, h5]
    · simp [F_X5_drifts_4, F_X10_drifts_4, sq_dr, h5]
  · have ho := sq_odd t (by omega)
    rw [← ht] at ho
    by_cases h5 : m (24 + 5 * v + 2) ≤ 5
    · by_cases h6 : am_rem (m 3) 2 = 0
      · have h7 : ¬ (m 3 &&& 1) = 1 := fun z => (ho.mp z) h6
        simp [F_X4_drifts_5, F_X5_drifts_5, F_X10_drifts_5, sq_dr, h5, h6, h7]
      · have h7 := ho.mpr h6
        simp [F_X4_drifts_5, F_X5_drifts_5, F_X10_drifts_5, sq_dr, h5, h6, h7]
    · by_cases h6 : am_rem (m 3) 2 = 0
      · have h7 : ¬ (m 3 &&& 1) = 1 := fun z => (ho.mp z) h6
        simp [F_X4_drifts_5, F_X5_drifts_5, F_X10_drifts_5, sq_dr, h5, h6, h7]
      · have h7 := ho.mpr h6
        simp [F_X4_drifts_5, F_X5_drifts_5, F_X10_drifts_5, sq_dr, h5, h6, h7]
  · rfl
  · rfl
theorem cz_p0 {x : Int32} {s : am_S} : F_X10_price_2 x s = some (sq_pr 0 x, s) := rfl
theorem cz_p1 {x : Int32} {s : am_S} : F_X0_price_3 x s = some (sq_pr 1 x, s) := rfl
theorem cz_p2 {x : Int32} {s : am_S} (h : sq_N x 9) : F_X5_price_4 x s = some (sq_pr 2 x, s) := by
  obtain ⟨n, hn, rfl⟩ := h
  have h1 := sq_pq n (by omega)
  unfold F_X5_price_4 F_X10_price_4
  rw [ix_b1, h1]; rfl
theorem cz_p3 {x : Int32} {s : am_S} (h : sq_N x 9) : F_X4_price_5 x s = some (sq_pr 3 x, s) := by
  obtain ⟨n, hn, rfl⟩ := h
  have h1 := sq_pq n (by omega)
  unfold F_X4_price_5 F_X5_price_5 F_X10_price_5
  rw [ix_b1, h1]; rfl
theorem cz_p4 {x : Int32} {s : am_S} : F_X1_price_6 x s = some (sq_pr 4 x, s) := rfl
theorem cz_p5 {x : Int32} {s : am_S} : F_X2_price_7 x s = some (sq_pr 5 x, s) := by
  show some ((1 : Int32) - 1, s) = some (0, s)
  rw [show (1 : Int32) - 1 = 0 by decide]
theorem cz_bursts (R : sq_R s.1 8 m) (ok : sq_Ok m) (hv : v < 6) : F_X8_isBursting_8 (Int32.ofNat v) s = some (if m (24 + 5 * v) = 4 ∧ ¬ m (24 + 5 * v + 2) < 8 then 1 else 0, s) := by
  obtain ⟨k, hk, e, h⟩ := cz_thing R ok hv
  unfold F_X8_isBursting_8
  rw [h, ix_b1, if_pos (cz_inv hv), ix_nat (by omega)]
  dsimp only
  rw [cz_str R hv, e]
  rcases sq_six hk with rfl | rfl | rfl | rfl | rfl | rfl
  · rfl
  · rfl
  · rfl
  · rfl
  · by_cases h5 : m (24 + 5 * v + 2) < 8
    · simp [F_X1_bursts_6, h5]
    · simp [F_X1_bursts_6, h5]
  · rfl
theorem cz_under {k : Nat} {a : Int32} (hk : k ≤ 5) : F_X11_isUnder (Int32.ofNat k) a s = some (if a = 0 ∨ Int32.ofNat k = a ∨ (Int32.ofNat k = 3 ∧ a = 2) ∨ (Int32.ofNat k = 5 ∧ a = 4) then 1 else 0, s) := by
  unfold F_X11_isUnder
  by_cases h1 : Int32.ofNat k = a
  · rw [if_pos h1, if_pos (Or.inr (Or.inl h1))]
  rw [if_neg h1]
  by_cases h2 : a = 0
  · rw [if_pos h2, if_pos (Or.inl h2)]
  rw [if_neg h2, if_neg (ix_nn (by omega)), if_neg (by rw [ix_Lle (by omega) (by omega)]; omega), if_pos (cz_inv (by omega)), ix_nat (by omega)]
  have h3 : ∀ k, k ≤ 5 → (Int32.ofNat k = 3 ↔ k = 3) := by decide
  have h4 : ∀ k, k ≤ 5 → (Int32.ofNat k = 5 ↔ k = 5) := by decide
  rcases sq_six hk with rfl | rfl | rfl | rfl | rfl | rfl
  · have e : am_KA 0 = 0 := rfl
    rw [e, if_neg (fun z => h2 z.symm), if_neg (by rintro (z | z | z | z); exact h2 z; exact h1 z; exact absurd z.1 (by decide); exact absurd z.1 (by decide))]
  · have e : am_KA 1 = 0 := rfl
    rw [e, if_neg (fun z => h2 z.symm), if_neg (by rintro (z | z | z | z); exact h2 z; exact h1 z; exact absurd z.1 (by decide); exact absurd z.1 (by decide))]
  · have e : am_KA 2 = 0 := rfl
    rw [e, if_neg (fun z => h2 z.symm), if_neg (by rintro (z | z | z | z); exact h2 z; exact h1 z; exact absurd z.1 (by decide); exact absurd z.1 (by decide))]
  · have e : am_KA 3 = 2 := rfl
    rw [e]
    by_cases h5 : a = 2
    · subst h5; rfl
    · rw [if_neg (fun z => h5 z.symm), if_neg (by rintro (z | z | z | z); exact h2 z; exact h1 z; exact h5 z.2; exact absurd z.1 (by decide))]
  · have e : am_KA 4 = 0 := rfl
    rw [e, if_neg (fun z => h2 z.symm), if_neg (by rintro (z | z | z | z); exact h2 z; exact h1 z; exact absurd z.1 (by decide); exact absurd z.1 (by decide))]
  · have e : am_KA 5 = 4 := rfl
    rw [e]
    by_cases h5 : a = 4
    · subst h5; rfl
    · rw [if_neg (fun z => h5 z.symm), if_neg (by rintro (z | z | z | z); exact h2 z; exact h1 z; exact absurd z.1 (by decide); exact h5 z.2)]
theorem cz_over (R : sq_R s.1 8 m) (ok : sq_Ok m) : F_X8_isOver_8 s = some (if m 3 < m 2 then 0 else 1, s) := by
  obtain ⟨t, e, h1, h0, h2, ht, he⟩ := ok.2.1
  unfold F_X8_isOver_8
  rw [R.1, R.2.1, ht, he]
  simp (disch := omega) only [ix_le, ix_lt, ix_ltL]
  by_cases h3 : e ≤ t
  · rw [if_pos h3, if_neg (by omega)]
  · rw [if_neg h3, if_pos (by omega), if_pos (by omega)]
/-- where a drifting voice comes to -/
theorem cz_drifted {p d t : Nat} (R : sq_R s.1 8 m) (ok : sq_Ok m) (ht : t < 16) (hp : p ≤ 15) (hd : d ≤ 2) : F_X8_drifted_8 (Int32.ofNat p) (Int32.ofNat d) (Int32.ofNat t) s = some (sq_to (m (8 + t)) (Int32.ofNat p) (Int32.ofNat d), s) := by
  obtain ⟨n, hn, e⟩ := ok.2.2.2.2.1 t ht
  have hf : ∀ p, p ≤ 15 → ∀ d, d ≤ 2 → (if Int32.ofNat p + Int32.ofNat d < 15 then Int32.ofNat p + Int32.ofNat d else 15) = sq_to 1 (Int32.ofNat p) (Int32.ofNat d) ∧ (if 0 < Int32.ofNat p - Int32.ofNat d then Int32.ofNat p - Int32.ofNat d else 0) = sq_to 2 (Int32.ofNat p) (Int32.ofNat d) ∧ Int32.ofNat p = sq_to 0 (Int32.ofNat p) (Int32.ofNat d) := by decide +kernel
  obtain ⟨f1, f2, f0⟩ := hf p hp d hd
  have e1 : s.1 9 t = m (8 + t) := R.2.2.2.2.2.2.2.2.1 t ht
  have ew : F_X11_isTideTurn (Int32.ofNat t) s = some (1, s) := by
    unfold F_X11_isTideTurn
    rw [ix_cw, ix_wi_p ⟨by rw [ix_Lle (by omega) (by omega)]; omega, by rw [ix_leL (by omega) (by omega)]; omega⟩]
    rfl
  unfold F_X8_drifted_8
  rw [ew, ix_b1]
  dsimp only
  rw [if_neg (by decide), if_pos ((ix_in (by omega)).mpr ht), ix_nat (by omega), e1, e]
  have : n = 0 ∨ n = 1 ∨ n = 2 := by omega
  rcases this with rfl | rfl | rfl
  · rw [if_neg (by decide), if_neg (by decide)]; exact congrArg (fun z => some (z, s)) f0
  · rw [if_pos (by decide), f1]; rfl
  · rw [if_neg (by decide), if_pos (by decide), f2]; rfl
theorem sq_dr_N {k st t : Int32} : ∃ d, d ≤ 2 ∧ sq_dr k st t = Int32.ofNat d := by
  unfold sq_dr
  repeat' split
  all_goals first | exact ⟨0, by omega, rfl⟩ | exact ⟨1, by omega, rfl⟩ | exact ⟨2, by omega, rfl⟩
theorem sq_to_N {t : Int32} {p d : Nat} (ht : sq_N t 2) (hp : p ≤ 15) (hd : d ≤ 2) : sq_N (sq_to t (Int32.ofNat p) (Int32.ofNat d)) 15 := by
  have hf : ∀ t, t ≤ 2 → ∀ p, p ≤ 15 → ∀ d, d ≤ 2 → 0 ≤ sq_to (Int32.ofNat t) (Int32.ofNat p) (Int32.ofNat d) ∧ sq_to (Int32.ofNat t) (Int32.ofNat p) (Int32.ofNat d) ≤ Int32.ofNat 15 := by decide +kernel
  obtain ⟨n, hn, rfl⟩ := ht
  obtain ⟨h1, h2⟩ := hf n hn p hp d hd
  exact ix_of2 (by omega) h1 h2
end CZ1
