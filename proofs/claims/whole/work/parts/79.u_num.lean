/-! LAYER 2: the model's numbers (written by hand) -/
theorem sq_MX_25 {T : Nat → Int32} {n p e : Nat} {x : Int32} {s : am_S} (h : sq_MX T n p e s) : sq_MX T n p e (am_sI s 82 25 x) := by
  obtain ⟨hn, h22, h23, h24, hT⟩ := h
  exact ⟨hn, by rw [ix_sIj (by decide)]; exact h22, by rw [ix_sIj (by decide)]; exact h23, by rw [ix_sIj (by decide)]; exact h24, fun i hi => by rw [ix_sIn (by decide)]; exact hT i hi⟩
theorem sq_nu_N {T : Nat → Int32} {n : Nat} (hT : ∀ i, i < n → sq_N (T i) 255) : ∀ (l q v : Nat), (∀ i, i < l → q + i < n ∧ sq_srt (T (q + i)) = 2) → l ≤ 4 → v < 10 ^ (4 - l) → ∃ w, w < 10 ^ 4 ∧ sq_nu T l q (Int32.ofNat v) = Int32.ofNat w := by
  intro l
  induction l with
  | zero => intro q v _ _ hv; exact ⟨v, hv, rfl⟩
  | succ l ih =>
    intro q v hd hl hv
    obtain ⟨h1, h2⟩ := hd 0 (by omega)
    rw [Nat.add_zero] at h1 h2
    obtain ⟨k, hk, ek⟩ := hT q h1
    have hdig : 48 ≤ k ∧ k ≤ 57 := by
      have h3 : ix_wi (T q) 48 57 = 1 := by rw [sq_wi2, if_pos h2]
      rw [ek] at h3
      have h4 := ix_wi_N (a := k) (lo := 48) (hi := 57) (by omega) (by omega) (by omega)
      have h4' : ix_wi (Int32.ofNat k) 48 57 = _ := h4
      rw [h4'] at h3
      by_cases h5 : 48 ≤ k ∧ k ≤ 57
      · exact h5
      · rw [if_neg h5] at h3; exact absurd h3 (by decide)
    have hp : 10 ^ (4 - l) = 10 * 10 ^ (4 - (l + 1)) := by
      rw [show 4 - l = (4 - (l + 1)) + 1 by omega, Nat.pow_succ]; omega
    have he : Int32.ofNat v * 10 + T q - 48 = Int32.ofNat (v * 10 + k - 48) := by
      rw [ek, show (10 : Int32) = Int32.ofNat 10 from rfl, ← Int32.ofNat_mul, ix_add, ix_subL _ _ (by show 48 ≤ v * 10 + k; omega)]
    rw [sq_nu, he]
    refine ih (q + 1) _ (fun i hi => ?_) (by omega) (by omega)
    have := hd (i + 1) (by omega)
    rw [show q + 1 + i = q + (i + 1) by omega]
    exact this
theorem mz_numL {T : Nat → Int32} {n p e : Nat} {x1 : Int32} (he : e ≤ n) : ∀ (l q f : Nat) (s : am_S) (X : Int32), q + l = e → l < f → sq_MX T n p e s → s.1 82 25 = X → ∃ s', F_X12_number_82_b43 f x1 1 (Int32.ofNat q) s = F_X12_number_82_b82 x1 1 s' ∧ sq_MX T n p e s' ∧ s'.1 82 25 = sq_nu T l q X ∧ ix_F2 (fun k j => k == 82 && j == 25) s s' := by
  intro l
  induction l with
  | zero =>
    intro q f s X hq hf h h25
    obtain ⟨f, rfl⟩ : ∃ g, f = g + 1 := ⟨f - 1, by omega⟩
    have hn := h.1
    refine ⟨s, ?_, h, h25, ix_F2.rf⟩
    rw [F_X12_number_82_b43, h.2.2.2.1, if_pos (by rw [ix_le (by omega) (by omega)]; omega)]
  | succ l ih =>
    intro q f s X hq hf h h25
    obtain ⟨f, rfl⟩ : ∃ g, f = g + 1 := ⟨f - 1, by omega⟩
    have hn := h.1
    have hnq : (Int32.ofNat q).toNatClampNeg = q := ix_nat (by omega)
    have hx : (10 : Int32) * X + T q - 48 = X * 10 + T q - 48 := by rw [Int32.mul_comm]
    obtain ⟨s', i1, i2, i3, i4⟩ := ih (q + 1) f (am_sI s 82 25 (X * 10 + T q - 48)) _ (by omega) (by omega) (sq_MX_25 h) ix_sIs
    refine ⟨s', ?_, i2, i3, (ix_F2.I (by rfl)).tr i4⟩
    rw [F_X12_number_82_b43, h.2.2.2.1, if_neg (by rw [ix_le (by omega) (by omega)]; omega), if_neg (show ¬ (1 : Int32) = 0 by decide), if_pos ((ix_in (by omega)).mpr (by omega))]
    simp only [hnq]
    rw [(h.2.2.2.2 q (by omega)).1, h25, hx, ix_b1, ix_addL, i1]
/-- a number of at most 4 digits, or nothing -/
theorem mz_number {T : Nat → Int32} {n p e : Nat} {x1 : Int32} {s : am_S} (h : sq_MX T n p e s) (hp : p ≤ e) (he : e ≤ n) (hpn : p ≤ n) : ∃ s1 y, F_X12_number_82 x1 s = F_X12_wants_82 y s1 ∧ sq_MX T n p e s1 ∧ ix_F2 (fun k j => k == 82 && j == 25) s s1 ∧ ((p < n ∧ sq_srt (T p) = 2 ∧ e - p ≤ 4) → s1.1 82 25 = sq_nu T (e - p) p 0 ∧ y = (if x1 < sq_nu T (e - p) p 0 then 0 else 1)) ∧ (¬ (p < n ∧ sq_srt (T p) = 2 ∧ e - p ≤ 4) → y = 0) := by
  have hn := h.1
  have z1 : ¬ (1 : Int32) = 0 := by decide
  have z0 : (0 : Int32) = 0 := rfl
  have hb := mz_byteAt (q := p) h hpn
  have h2 := sq_MX_25 (x := 0) h
  have f2 : ix_F2 (fun k j => k == 82 && j == 25) s (am_sI s 82 25 0) := ix_F2.I (by rfl)
  have hw : ∀ (y : Int32) (u : am_S), ((F_X12_wants_82 y u).bind fun q1 => (some q1)) = F_X12_wants_82 y u := by
    intro y u
    cases F_X12_wants_82 y u <;> rfl
  -- nothing
  have hno : F_X12_number_82_b31 x1 s = F_X12_wants_82 0 (am_sI s 82 25 0) := by
    rw [F_X12_number_82_b31, F_X12_number_82_b32, ix_b1, h2.2.2.1, F_X12_number_82_b43, h2.2.2.2.1]
    have h82 : F_X12_number_82_b82 x1 0 (am_sI s 82 25 0) = F_X12_wants_82 0 (am_sI s 82 25 0) := by
      rw [F_X12_number_82_b82, if_pos z0, F_X12_number_82_b99, F_X12_number_82_b100, hw]
    rw [if_pos z0, h82]
    split <;> rfl
  by_cases hc : p < n ∧ sq_srt (T p) = 2
  rotate_left
  · refine ⟨am_sI s 82 25 0, 0, ?_, h2, f2, fun z => absurd ⟨z.1, z.2.1⟩ hc, fun _ => rfl⟩
    have hd : ix_wi (if p < n then T p else -1) 48 57 = 0 := by
      by_cases hpn2 : p < n
      · rw [if_pos hpn2, sq_wi2, if_neg (fun z => hc ⟨hpn2, z⟩)]
      · rw [if_neg hpn2]; decide
    rw [F_X12_number_82, h.2.2.1, hb, ix_b1]
    dsimp only
    rw [mz_digit, hd, ix_b1]
    dsimp only
    rw [if_pos z0, hno]
  have hd : ix_wi (if p < n then T p else -1) 48 57 = 1 := by rw [if_pos hc.1, sq_wi2, if_pos hc.2]
  by_cases h4 : e - p ≤ 4
  rotate_left
  · refine ⟨am_sI s 82 25 0, 0, ?_, h2, f2, fun z => absurd z.2.2 h4, fun _ => rfl⟩
    rw [F_X12_number_82, h.2.2.1, hb, ix_b1]
    dsimp only
    rw [mz_digit, hd, ix_b1]
    dsimp only
    rw [if_neg z1, h.2.2.2.1, h.2.2.1, ix_sub _ _ hp, if_pos (by rw [ix_Lle (by omega) (by omega)]; omega), hno]
  · obtain ⟨s', i1, i2, i3, i4⟩ := mz_numL (x1 := x1) he (e - p) p 1000 (am_sI s 82 25 0) 0 (by omega) (by omega) h2 ix_sIs
    refine ⟨s', (if x1 < sq_nu T (e - p) p 0 then 0 else 1), ?_, i2, f2.tr i4, fun _ => ⟨i3, rfl⟩, fun z => absurd ⟨hc.1, hc.2, h4⟩ z⟩
    rw [F_X12_number_82, h.2.2.1, hb, ix_b1]
    dsimp only
    rw [mz_digit, hd, ix_b1]
    dsimp only
    rw [if_neg z1, h.2.2.2.1, h.2.2.1, ix_sub _ _ hp, if_neg (by rw [ix_Lle (by omega) (by omega)]; omega), F_X12_number_82_b32, ix_b1, h2.2.2.1, i1, F_X12_number_82_b82, if_neg z1, i3]
    by_cases hx : x1 < sq_nu T (e - p) p 0
    · rw [if_pos hx, if_pos hx, F_X12_number_82_b99, F_X12_number_82_b100, hw]
    · rw [if_neg hx, if_neg hx, F_X12_number_82_b100, hw]
