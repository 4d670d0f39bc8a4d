/-! LAYER 2: the model's numbers (written by hand) -/
theorem sq_MX_25 {T : Nat → Int32} {n p e : Nat} {x : Int32} {s : am_S} (h : sq_MX T n p e s) : sq_MX T n p e (am_sI s 82 25 x) := by
  obtain ⟨hn, h22, h23, h24, hT⟩ := h
  exact ⟨hn, by rw [ix_sIj (by decide)]; exact h22, by rw [ix_sIj (by decide)]; exact h23, by rw [ix_sIj (by decide)]; exact h24, fun i hi => by rw [ix_sIn (by decide)]; exact hT i hi⟩
theorem sq_nu_N {T : Nat → Int32} {n : Nat} (hT : ∀ i, i < n → sq_N (T i) 255) : ∀ (l q v : Nat), (∀ i, i < l → q + i < n ∧ sq_srt (T (q + i)) = 2) → l ≤ 4 → v < 10 ^ (4 - l) → ∃ w, w < 10 ^ 4 ∧ sq_nu T l q (Int32.ofNat v) = Int32.ofNat w := by
  intro l
  induction l with
  | zero => intro q v _ _ hv; exact ⟨v, hv, rfl⟩
  | succ l ih =>
    intro q v hd hl hv
    obtain ⟨h1, h2⟩ := hd 0 (by omega)
    rw [Nat.add_zero] at h1 h2
    obtain ⟨k, hk, ek⟩ := hT q h1
    have hdig : 48 ≤ k ∧ k ≤ 57 := by
      have h3 : ix_wi (T q) 48 57 = 1 := by rw [sq_wi2, if_pos h2]
      rw [ek] at h3
      have h4 := ix_wi_N (a := k) (lo := 48) (hi := 57) (by omega) (by omega) (by omega)
      have h4' : ix_wi (Int32.ofNat k) 48 57 = _ := h4
      rw [h4'] at h3
      by_cases h5 : 48 ≤ k ∧ k ≤ 57
      · exact h5
      · rw [if_neg h5] at h3; exact absurd h3 (by decide)
    have hp : 10 ^ (4 - l) = 10 * 10 ^ (4 - (l + 1)) := by
      rw [show 4 - l = (4 - (l + 1)) + 1 by omega, Nat.pow_succ]; omega
    have he : Int32.ofNat v * 10 + T q - 48 = Int32.ofNat (v * 10 + k - 48) := by
      rw [ek, show (10 : Int32) = Int32.ofNat 10 from rfl, ← Int32.ofNat_mul, ix_add, ix_subL _ _ (by show 48 ≤ v * 10 + k; omega)]
    rw [sq_nu, he]
    refine ih (q + 1) _ (fun i hi => ?_) (by omega) (by omega)
    have := hd (i + 1) (by omega)
    rw [show q + 1 + i = q + (i + 1) by omega]
    exact this
