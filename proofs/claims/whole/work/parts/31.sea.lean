/-! LAYER 2: the sea as one row m of 296 ints (the model's own), what is told of it, and its leaves -/
/-- a number from 0 to b -/
def sq_N (x : Int32) (b : Nat) : Prop := ∃ n, n ≤ b ∧ x = Int32.ofNat n
def sq_dr (k st t : Int32) : Int32 := if k = 1 then 2 else if k = 2 then (if st ≤ 5 then 1 else 2) else if k = 3 then (if am_rem t 2 = 0 then (if st ≤ 5 then 1 else 2) else 0) else if k = 4 then 0 else if k = 5 then 2 else 1
def sq_pr (k st : Int32) : Int32 := if k = 1 then 2 * st else if k = 2 then (if st ≤ 2 then 0 else st - 2) else if k = 3 then (if st ≤ 2 then 0 else st - 2) + 5 else if k = 4 then 1 else if k = 5 then 0 else st
def sq_bu (k st : Int32) : Prop := k = 4 ∧ ¬ st < 8
def sq_un (k a : Int32) : Prop := a = 0 ∨ k = a ∨ (k = 3 ∧ a = 2) ∨ (k = 5 ∧ a = 4)
def sq_to (t p d : Int32) : Int32 := let q := if t = 1 then p + d else if t = 2 then p - d else p; if 0 ≤ q then (if q ≤ 15 then q else 15) else 0
def sq_b (p : Prop) [Decidable p] : Int32 := if p then 1 else 0
theorem mz_its {s : am_S} {v w : Nat} (hv : v < 6) (hw : w < 5) : F_X12_its_82 (Int32.ofNat v) (Int32.ofNat w) s = some (s.1 83 (24 + 5 * v + w), s) := by
  unfold F_X12_its_82 F_X12_at
  rw [ix_Lmul, ix_Ladd, ix_add, ix_b1, if_pos ((ix_in (by omega)).mpr (by omega)), ix_nat (by omega)]
theorem mz_its0 {s : am_S} {v : Nat} (hv : v < 6) : F_X12_its_82 (Int32.ofNat v) 0 s = some (s.1 83 (24 + 5 * v), s) := mz_its (w := 0) hv (by omega)
theorem mz_its1 {s : am_S} {v : Nat} (hv : v < 6) : F_X12_its_82 (Int32.ofNat v) 1 s = some (s.1 83 (24 + 5 * v + 1), s) := mz_its (w := 1) hv (by omega)
theorem mz_its2 {s : am_S} {v : Nat} (hv : v < 6) : F_X12_its_82 (Int32.ofNat v) 2 s = some (s.1 83 (24 + 5 * v + 2), s) := mz_its (w := 2) hv (by omega)
theorem mz_its3 {s : am_S} {v : Nat} (hv : v < 6) : F_X12_its_82 (Int32.ofNat v) 3 s = some (s.1 83 (24 + 5 * v + 3), s) := mz_its (w := 3) hv (by omega)
theorem mz_its4 {s : am_S} {v : Nat} (hv : v < 6) : F_X12_its_82 (Int32.ofNat v) 4 s = some (s.1 83 (24 + 5 * v + 4), s) := mz_its (w := 4) hv (by omega)
theorem mz_at {s : am_S} {v w : Nat} : F_X12_at (Int32.ofNat v) (Int32.ofNat w) s = some (Int32.ofNat (24 + 5 * v + w), s) := by
  unfold F_X12_at
  rw [ix_Lmul, ix_Ladd, ix_add]
theorem mz_driftOf {k st t : Int32} {s : am_S} : F_X12_driftOf k st t s = some (sq_dr k st t, s) := by
  unfold F_X12_driftOf F_X12_driftOf_b10 sq_dr
  repeat' split
  all_goals rfl
theorem mz_drifts {s : am_S} {v : Nat} (hv : v < 6) : F_X12_drifts_82 (Int32.ofNat v) s = some (sq_dr (s.1 83 (24 + 5 * v)) (s.1 83 (24 + 5 * v + 2)) (s.1 83 3), s) := by
  unfold F_X12_drifts_82
  rw [mz_its0 hv, ix_b1, mz_its2 hv, ix_b1, if_pos (by decide), mz_driftOf]
  rfl
theorem mz_price {s : am_S} {v : Nat} (hv : v < 6) : F_X12_price_82 (Int32.ofNat v) s = some (sq_pr (s.1 83 (24 + 5 * v)) (s.1 83 (24 + 5 * v + 2)), s) := by
  unfold F_X12_price_82 F_X12_price_82_b19 sq_pr
  rw [mz_its2 hv, ix_b1, mz_its0 hv, ix_b1, ix_b1]
  repeat' split
  all_goals first | rfl | (dsimp only at *; exfalso; simp_all; done)
theorem mz_bursts {s : am_S} {v : Nat} (hv : v < 6) : F_X12_isBursting_82 (Int32.ofNat v) s = some (if s.1 83 (24 + 5 * v) = 4 ∧ ¬ s.1 83 (24 + 5 * v + 2) < 8 then 1 else 0, s) := by
  unfold F_X12_isBursting_82
  rw [mz_its0 hv, ix_b1, mz_its2 hv, ix_b1]
  dsimp only
  by_cases h1 : s.1 83 (24 + 5 * v) = 4
  · by_cases h2 : s.1 83 (24 + 5 * v + 2) < 8
    · rw [if_pos h1, if_pos h2, if_neg (fun z => z.2 h2)]
    · rw [if_pos h1, if_neg h2, if_pos ⟨h1, h2⟩]
  · rw [if_neg h1, if_neg (fun z => h1 z.1)]
theorem mz_under {k a : Int32} {s : am_S} : F_X12_isUnder k a s = some (if a = 0 ∨ k = a ∨ (k = 3 ∧ a = 2) ∨ (k = 5 ∧ a = 4) then 1 else 0, s) := by
  unfold F_X12_isUnder F_X12_isUnder_b19
  by_cases h1 : a = 0
  · rw [if_pos h1, if_pos (Or.inl h1)]
  rw [if_neg h1]
  by_cases h2 : k = a
  · rw [if_pos h2, if_pos (Or.inr (Or.inl h2))]
  rw [if_neg h2]
  by_cases h3 : k = 3
  · subst h3
    by_cases h4 : a = 2
    · subst h4; rfl
    · have : ¬ (3 : Int32) = 5 := by decide
      simp [h1, h2, h4, this]
  · by_cases h5 : k = 5
    · subst h5; by_cases h6 : a = 4
      · subst h6; rfl
      · simp [h1, h2, h6]
    · simp [h1, h2, h3, h5]
theorem mz_driftsTo {s : am_S} {p d : Int32} {t : Nat} (ht : t < 16) : F_X12_driftsTo_82 p d (Int32.ofNat t) s = some (sq_to (s.1 83 (8 + t)) p d, s) := by
  unfold F_X12_driftsTo_82 F_X12_driftsTo_82_b36 F_X12_heldPlace sq_to
  rw [ix_Ladd, if_pos ((ix_in (by omega)).mpr (by omega)), ix_nat (by omega), ix_b1]
  dsimp only
  repeat' split
  all_goals rfl
theorem mz_over {s : am_S} : F_X12_isOver_82 s = some (if s.1 83 3 < s.1 83 2 then 0 else 1, s) := by
  unfold F_X12_isOver_82
  rw [if_pos (by decide), if_pos (by decide)]
  show (if s.1 83 3 < s.1 83 2 then _ else _) = _
  split <;> rfl
