/-! LAYER 2: the words that rules know, in both (written by wip/whole/l2/gen74.py) -/
def sq_is (T : Nat → Int32) (p e k : Nat) : Bool := decide (e = p + (am_sB.getD k []).length) && sq_rdb T p (am_sB.getD k [])
theorem sq_sBok : ∀ k, k < 18 → (am_sB.getD k []).length ≤ 8 ∧ 2 ≤ (am_sB.getD k []).length ∧ ∀ i, i < (am_sB.getD k []).length → am_i2c (((am_sB.getD k []).getD i 0) &&& (255 : Int32)) = (am_sB.getD k []).getD i 0 ∧ narrow .char (.int ((am_sB.getD k []).getD i 0)) = .int ((am_sB.getD k []).getD i 0) := by
  have h : ∀ k, k < 18 → (am_sB.getD k []).length ≤ 8 ∧ 2 ≤ (am_sB.getD k []).length := by decide +kernel
  have h2 : ∀ k, k < 18 → ∀ i, i < (am_sB.getD k []).length → am_i2c (((am_sB.getD k []).getD i 0) &&& (255 : Int32)) = (am_sB.getD k []).getD i 0 := by decide +kernel
  have h3 : ∀ k, k < 18 → ∀ i, i < (am_sB.getD k []).length → am_i2c ((am_sB.getD k []).getD i 0) = (am_sB.getD k []).getD i 0 := by decide +kernel
  intro k hk
  refine ⟨(h k hk).1, (h k hk).2, fun i hi => ⟨h2 k hk i hi, ?_⟩⟩
  have := h3 k hk i hi
  show Value.int (am_i2c ((am_sB.getD k []).getD i 0)) = _
  rw [this]
theorem cz_rd0 {p e : Nat} {s : am_S} (hpe : p ≤ e) (he : e ≤ 200) : F_X6_reads_40 am_B0 (Int32.ofNat p) (Int32.ofNat e) s = some (if sq_is (s.1 41) p e 0 = true then 1 else 0, s) := by
  obtain ⟨h1, h2, h3⟩ := sq_sBok 0 (by omega)
  have h := cz_reads (bs := am_sB.getD 0 []) (s := s) h3 (by omega) hpe he
  unfold sq_is
  simp only [Bool.and_eq_true, decide_eq_true_eq]
  exact h
theorem cz_rd1 {p e : Nat} {s : am_S} (hpe : p ≤ e) (he : e ≤ 200) : F_X6_reads_40 am_B1 (Int32.ofNat p) (Int32.ofNat e) s = some (if sq_is (s.1 41) p e 1 = true then 1 else 0, s) := by
  obtain ⟨h1, h2, h3⟩ := sq_sBok 1 (by omega)
  have h := cz_reads (bs := am_sB.getD 1 []) (s := s) h3 (by omega) hpe he
  unfold sq_is
  simp only [Bool.and_eq_true, decide_eq_true_eq]
  exact h
theorem cz_rd2 {p e : Nat} {s : am_S} (hpe : p ≤ e) (he : e ≤ 200) : F_X6_reads_40 am_B2 (Int32.ofNat p) (Int32.ofNat e) s = some (if sq_is (s.1 41) p e 2 = true then 1 else 0, s) := by
  obtain ⟨h1, h2, h3⟩ := sq_sBok 2 (by omega)
  have h := cz_reads (bs := am_sB.getD 2 []) (s := s) h3 (by omega) hpe he
  unfold sq_is
  simp only [Bool.and_eq_true, decide_eq_true_eq]
  exact h
theorem cz_rd3 {p e : Nat} {s : am_S} (hpe : p ≤ e) (he : e ≤ 200) : F_X6_reads_40 am_B3 (Int32.ofNat p) (Int32.ofNat e) s = some (if sq_is (s.1 41) p e 3 = true then 1 else 0, s) := by
  obtain ⟨h1, h2, h3⟩ := sq_sBok 3 (by omega)
  have h := cz_reads (bs := am_sB.getD 3 []) (s := s) h3 (by omega) hpe he
  unfold sq_is
  simp only [Bool.and_eq_true, decide_eq_true_eq]
  exact h
theorem cz_rd4 {p e : Nat} {s : am_S} (hpe : p ≤ e) (he : e ≤ 200) : F_X6_reads_40 am_B4 (Int32.ofNat p) (Int32.ofNat e) s = some (if sq_is (s.1 41) p e 4 = true then 1 else 0, s) := by
  obtain ⟨h1, h2, h3⟩ := sq_sBok 4 (by omega)
  have h := cz_reads (bs := am_sB.getD 4 []) (s := s) h3 (by omega) hpe he
  unfold sq_is
  simp only [Bool.and_eq_true, decide_eq_true_eq]
  exact h
theorem cz_rd5 {p e : Nat} {s : am_S} (hpe : p ≤ e) (he : e ≤ 200) : F_X6_reads_40 am_B5 (Int32.ofNat p) (Int32.ofNat e) s = some (if sq_is (s.1 41) p e 5 = true then 1 else 0, s) := by
  obtain ⟨h1, h2, h3⟩ := sq_sBok 5 (by omega)
  have h := cz_reads (bs := am_sB.getD 5 []) (s := s) h3 (by omega) hpe he
  unfold sq_is
  simp only [Bool.and_eq_true, decide_eq_true_eq]
  exact h
theorem cz_rd6 {p e : Nat} {s : am_S} (hpe : p ≤ e) (he : e ≤ 200) : F_X6_reads_40 am_B6 (Int32.ofNat p) (Int32.ofNat e) s = some (if sq_is (s.1 41) p e 6 = true then 1 else 0, s) := by
  obtain ⟨h1, h2, h3⟩ := sq_sBok 6 (by omega)
  have h := cz_reads (bs := am_sB.getD 6 []) (s := s) h3 (by omega) hpe he
  unfold sq_is
  simp only [Bool.and_eq_true, decide_eq_true_eq]
  exact h
theorem cz_rd7 {p e : Nat} {s : am_S} (hpe : p ≤ e) (he : e ≤ 200) : F_X6_reads_40 am_B7 (Int32.ofNat p) (Int32.ofNat e) s = some (if sq_is (s.1 41) p e 7 = true then 1 else 0, s) := by
  obtain ⟨h1, h2, h3⟩ := sq_sBok 7 (by omega)
  have h := cz_reads (bs := am_sB.getD 7 []) (s := s) h3 (by omega) hpe he
  unfold sq_is
  simp only [Bool.and_eq_true, decide_eq_true_eq]
  exact h
theorem cz_rd8 {p e : Nat} {s : am_S} (hpe : p ≤ e) (he : e ≤ 200) : F_X6_reads_40 am_B8 (Int32.ofNat p) (Int32.ofNat e) s = some (if sq_is (s.1 41) p e 8 = true then 1 else 0, s) := by
  obtain ⟨h1, h2, h3⟩ := sq_sBok 8 (by omega)
  have h := cz_reads (bs := am_sB.getD 8 []) (s := s) h3 (by omega) hpe he
  unfold sq_is
  simp only [Bool.and_eq_true, decide_eq_true_eq]
  exact h
theorem cz_rd9 {p e : Nat} {s : am_S} (hpe : p ≤ e) (he : e ≤ 200) : F_X6_reads_40 am_B9 (Int32.ofNat p) (Int32.ofNat e) s = some (if sq_is (s.1 41) p e 9 = true then 1 else 0, s) := by
  obtain ⟨h1, h2, h3⟩ := sq_sBok 9 (by omega)
  have h := cz_reads (bs := am_sB.getD 9 []) (s := s) h3 (by omega) hpe he
  unfold sq_is
  simp only [Bool.and_eq_true, decide_eq_true_eq]
  exact h
theorem cz_rd10 {p e : Nat} {s : am_S} (hpe : p ≤ e) (he : e ≤ 200) : F_X6_reads_40 am_B10 (Int32.ofNat p) (Int32.ofNat e) s = some (if sq_is (s.1 41) p e 10 = true then 1 else 0, s) := by
  obtain ⟨h1, h2, h3⟩ := sq_sBok 10 (by omega)
  have h := cz_reads (bs := am_sB.getD 10 []) (s := s) h3 (by omega) hpe he
  unfold sq_is
  simp only [Bool.and_eq_true, decide_eq_true_eq]
  exact h
theorem cz_rd11 {p e : Nat} {s : am_S} (hpe : p ≤ e) (he : e ≤ 200) : F_X6_reads_40 am_B11 (Int32.ofNat p) (Int32.ofNat e) s = some (if sq_is (s.1 41) p e 11 = true then 1 else 0, s) := by
  obtain ⟨h1, h2, h3⟩ := sq_sBok 11 (by omega)
  have h := cz_reads (bs := am_sB.getD 11 []) (s := s) h3 (by omega) hpe he
  unfold sq_is
  simp only [Bool.and_eq_true, decide_eq_true_eq]
  exact h
theorem cz_rd12 {p e : Nat} {s : am_S} (hpe : p ≤ e) (he : e ≤ 200) : F_X6_reads_40 am_B12 (Int32.ofNat p) (Int32.ofNat e) s = some (if sq_is (s.1 41) p e 12 = true then 1 else 0, s) := by
  obtain ⟨h1, h2, h3⟩ := sq_sBok 12 (by omega)
  have h := cz_reads (bs := am_sB.getD 12 []) (s := s) h3 (by omega) hpe he
  unfold sq_is
  simp only [Bool.and_eq_true, decide_eq_true_eq]
  exact h
theorem cz_rd13 {p e : Nat} {s : am_S} (hpe : p ≤ e) (he : e ≤ 200) : F_X6_reads_40 am_B13 (Int32.ofNat p) (Int32.ofNat e) s = some (if sq_is (s.1 41) p e 13 = true then 1 else 0, s) := by
  obtain ⟨h1, h2, h3⟩ := sq_sBok 13 (by omega)
  have h := cz_reads (bs := am_sB.getD 13 []) (s := s) h3 (by omega) hpe he
  unfold sq_is
  simp only [Bool.and_eq_true, decide_eq_true_eq]
  exact h
theorem cz_rd14 {p e : Nat} {s : am_S} (hpe : p ≤ e) (he : e ≤ 200) : F_X6_reads_40 am_B14 (Int32.ofNat p) (Int32.ofNat e) s = some (if sq_is (s.1 41) p e 14 = true then 1 else 0, s) := by
  obtain ⟨h1, h2, h3⟩ := sq_sBok 14 (by omega)
  have h := cz_reads (bs := am_sB.getD 14 []) (s := s) h3 (by omega) hpe he
  unfold sq_is
  simp only [Bool.and_eq_true, decide_eq_true_eq]
  exact h
theorem cz_rd15 {p e : Nat} {s : am_S} (hpe : p ≤ e) (he : e ≤ 200) : F_X6_reads_40 am_B15 (Int32.ofNat p) (Int32.ofNat e) s = some (if sq_is (s.1 41) p e 15 = true then 1 else 0, s) := by
  obtain ⟨h1, h2, h3⟩ := sq_sBok 15 (by omega)
  have h := cz_reads (bs := am_sB.getD 15 []) (s := s) h3 (by omega) hpe he
  unfold sq_is
  simp only [Bool.and_eq_true, decide_eq_true_eq]
  exact h
theorem cz_rd16 {p e : Nat} {s : am_S} (hpe : p ≤ e) (he : e ≤ 200) : F_X6_reads_40 am_B16 (Int32.ofNat p) (Int32.ofNat e) s = some (if sq_is (s.1 41) p e 16 = true then 1 else 0, s) := by
  obtain ⟨h1, h2, h3⟩ := sq_sBok 16 (by omega)
  have h := cz_reads (bs := am_sB.getD 16 []) (s := s) h3 (by omega) hpe he
  unfold sq_is
  simp only [Bool.and_eq_true, decide_eq_true_eq]
  exact h
theorem cz_rd17 {p e : Nat} {s : am_S} (hpe : p ≤ e) (he : e ≤ 200) : F_X6_reads_40 am_B17 (Int32.ofNat p) (Int32.ofNat e) s = some (if sq_is (s.1 41) p e 17 = true then 1 else 0, s) := by
  obtain ⟨h1, h2, h3⟩ := sq_sBok 17 (by omega)
  have h := cz_reads (bs := am_sB.getD 17 []) (s := s) h3 (by omega) hpe he
  unfold sq_is
  simp only [Bool.and_eq_true, decide_eq_true_eq]
  exact h
def sq_kd (T : Nat → Int32) (p e : Nat) : Int32 := if sq_is T p e 0 = true then 0 else if sq_is T p e 1 = true then 1 else if sq_is T p e 2 = true then 2 else if sq_is T p e 3 = true then 3 else if sq_is T p e 4 = true then 4 else if sq_is T p e 5 = true then 5 else -1
def sq_fwd (T : Nat → Int32) (p e : Nat) : Int32 := if sq_is T p e 6 = true then 0 else if sq_is T p e 7 = true then 1 else if sq_is T p e 8 = true then 2 else if sq_is T p e 9 = true then 3 else if sq_is T p e 10 = true then 4 else -1
theorem cz_kdw {p e : Nat} {s : am_S} (hpe : p ≤ e) (he : e ≤ 200) : F_X6_kindOf_40 (Int32.ofNat p) (Int32.ofNat e) s = some (sq_kd (s.1 41) p e, s) := by
  have z1 : ¬ (1 : Int32) = 0 := by decide
  have z0 : (0 : Int32) = 0 := rfl
  unfold F_X6_kindOf_40 sq_kd
  rw [cz_rd0 hpe he, ix_b1]
  dsimp only
  by_cases h0 : sq_is (s.1 41) p e 0 = true
  · rw [if_pos h0, if_neg z1, if_pos h0]
  rw [if_neg h0, if_pos z0, if_neg h0]
  rw [cz_rd1 hpe he, ix_b1]
  dsimp only
  by_cases h1 : sq_is (s.1 41) p e 1 = true
  · rw [if_pos h1, if_neg z1, if_pos h1]
  rw [if_neg h1, if_pos z0, if_neg h1]
  rw [cz_rd2 hpe he, ix_b1]
  dsimp only
  by_cases h2 : sq_is (s.1 41) p e 2 = true
  · rw [if_pos h2, if_neg z1, if_pos h2]
  rw [if_neg h2, if_pos z0, if_neg h2]
  rw [cz_rd3 hpe he, ix_b1]
  dsimp only
  by_cases h3 : sq_is (s.1 41) p e 3 = true
  · rw [if_pos h3, if_neg z1, if_pos h3]
  rw [if_neg h3, if_pos z0, if_neg h3]
  rw [cz_rd4 hpe he, ix_b1]
  dsimp only
  by_cases h4 : sq_is (s.1 41) p e 4 = true
  · rw [if_pos h4, if_neg z1, if_pos h4]
  rw [if_neg h4, if_pos z0, if_neg h4]
  rw [cz_rd5 hpe he, ix_b1]
  dsimp only
  by_cases h5 : sq_is (s.1 41) p e 5 = true
  · rw [if_pos h5, if_neg z1, if_pos h5]
  rw [if_neg h5, if_pos z0, if_neg h5]
theorem cz_fcw {p e : Nat} {s : am_S} (hpe : p ≤ e) (he : e ≤ 200) : F_X6_factOf_40 (Int32.ofNat p) (Int32.ofNat e) s = some (sq_fwd (s.1 41) p e, s) := by
  have z1 : ¬ (1 : Int32) = 0 := by decide
  have z0 : (0 : Int32) = 0 := rfl
  unfold F_X6_factOf_40 sq_fwd
  rw [cz_rd6 hpe he, ix_b1]
  dsimp only
  by_cases h6 : sq_is (s.1 41) p e 6 = true
  · rw [if_pos h6, if_neg z1, if_pos h6]
  rw [if_neg h6, if_pos z0, if_neg h6]
  rw [cz_rd7 hpe he, ix_b1]
  dsimp only
  by_cases h7 : sq_is (s.1 41) p e 7 = true
  · rw [if_pos h7, if_neg z1, if_pos h7]
  rw [if_neg h7, if_pos z0, if_neg h7]
  rw [cz_rd8 hpe he, ix_b1]
  dsimp only
  by_cases h8 : sq_is (s.1 41) p e 8 = true
  · rw [if_pos h8, if_neg z1, if_pos h8]
  rw [if_neg h8, if_pos z0, if_neg h8]
  rw [cz_rd9 hpe he, ix_b1]
  dsimp only
  by_cases h9 : sq_is (s.1 41) p e 9 = true
  · rw [if_pos h9, if_neg z1, if_pos h9]
  rw [if_neg h9, if_pos z0, if_neg h9]
  rw [cz_rd10 hpe he, ix_b1]
  dsimp only
  by_cases h10 : sq_is (s.1 41) p e 10 = true
  · rw [if_pos h10, if_neg z1, if_pos h10]
  rw [if_neg h10, if_pos z0, if_neg h10]
def sq_wc (T : Nat → Int32) (p e : Nat) : Int32 := if sq_kd T p e < 0 then (if sq_fwd T p e < 0 then (if sq_is T p e 11 = true then 10040 else if sq_is T p e 12 = true then 10041 else if sq_is T p e 13 = true then 10042 else if sq_is T p e 14 = true then 10050 else if sq_is T p e 15 = true then 10020 else if sq_is T p e 16 = true then 10021 else if sq_is T p e 17 = true then 10022 else 10055) else 10000 + sq_fwd T p e) else 10030 + sq_kd T p e
theorem cz_wdw {p e : Nat} {s : am_S} (hpe : p ≤ e) (he : e ≤ 200) : F_X6_wordOf_40 (Int32.ofNat p) (Int32.ofNat e) s = some (sq_wc (s.1 41) p e, s) := by
  have z1 : ¬ (1 : Int32) = 0 := by decide
  have z0 : (0 : Int32) = 0 := rfl
  unfold F_X6_wordOf_40 sq_wc
  rw [cz_kdw hpe he, ix_b1]
  dsimp only
  by_cases hk : sq_kd (s.1 41) p e < 0
  rotate_left
  · rw [if_neg hk, if_neg hk]
  rw [if_pos hk, if_pos hk, cz_fcw hpe he, ix_b1]
  dsimp only
  by_cases hf : sq_fwd (s.1 41) p e < 0
  rotate_left
  · rw [if_neg hf, if_neg hf]
  rw [if_pos hf, if_pos hf]
  rw [cz_rd11 hpe he, ix_b1]
  dsimp only
  by_cases h11 : sq_is (s.1 41) p e 11 = true
  · rw [if_pos h11, if_neg z1, if_pos h11]
  rw [if_neg h11, if_pos z0, if_neg h11]
  rw [cz_rd12 hpe he, ix_b1]
  dsimp only
  by_cases h12 : sq_is (s.1 41) p e 12 = true
  · rw [if_pos h12, if_neg z1, if_pos h12]
  rw [if_neg h12, if_pos z0, if_neg h12]
  rw [cz_rd13 hpe he, ix_b1]
  dsimp only
  by_cases h13 : sq_is (s.1 41) p e 13 = true
  · rw [if_pos h13, if_neg z1, if_pos h13]
  rw [if_neg h13, if_pos z0, if_neg h13]
  rw [cz_rd14 hpe he, ix_b1]
  dsimp only
  by_cases h14 : sq_is (s.1 41) p e 14 = true
  · rw [if_pos h14, if_neg z1, if_pos h14]
  rw [if_neg h14, if_pos z0, if_neg h14]
  rw [cz_rd15 hpe he, ix_b1]
  dsimp only
  by_cases h15 : sq_is (s.1 41) p e 15 = true
  · rw [if_pos h15, if_neg z1, if_pos h15]
  rw [if_neg h15, if_pos z0, if_neg h15]
  rw [cz_rd16 hpe he, ix_b1]
  dsimp only
  by_cases h16 : sq_is (s.1 41) p e 16 = true
  · rw [if_pos h16, if_neg z1, if_pos h16]
  rw [if_neg h16, if_pos z0, if_neg h16]
  rw [cz_rd17 hpe he, ix_b1]
  dsimp only
  by_cases h17 : sq_is (s.1 41) p e 17 = true
  · rw [if_pos h17, if_neg z1, if_pos h17]
  rw [if_neg h17, if_pos z0, if_neg h17]
/-- a word's number tells it -/
theorem sq_wv : ∀ k, k < 18 → (∀ b ∈ (am_sB.getD k []).reverse, sq_ltr b ∧ sq_N b 255) := by
  have h : ∀ k, k < 18 → ∀ b ∈ (am_sB.getD k []).reverse, (97 ≤ b.toNatClampNeg ∧ b.toNatClampNeg ≤ 122) ∧ b = Int32.ofNat b.toNatClampNeg := by decide +kernel
  intro k hk b hb
  obtain ⟨h1, h2⟩ := h k hk b hb
  exact ⟨h1, ⟨b.toNatClampNeg, by omega, h2⟩⟩
theorem sq_hw_is {T : Nat → Int32} {p l k : Nat} (hk : k < 18) (hT : ∀ i, i < l → sq_ltr (T (p + i)) ∧ sq_N (T (p + i)) 255) : sq_hw T p l = sq_vw (am_sB.getD k []).reverse ↔ sq_is T p (p + l) k = true := by
  have h8 := (sq_sBok k hk).1
  rw [sq_hw_x _ l (sq_wv k hk) (by rw [List.length_reverse]; omega) hT, sq_bk_x, List.length_reverse, List.reverse_reverse]
  unfold sq_is
  rw [Bool.and_eq_true, decide_eq_true_eq]
  constructor
  · rintro ⟨h1, h2⟩; exact ⟨by omega, h2⟩
  · rintro ⟨h1, h2⟩; exact ⟨by omega, h2⟩
theorem sq_vw0 : sq_vw (am_sB.getD 0 []).reverse = 23569509 := by decide +kernel
theorem sq_vw1 : sq_vw (am_sB.getD 1 []).reverse = 3417476 := by decide +kernel
theorem sq_vw2 : sq_vw (am_sB.getD 2 []).reverse = 18959911084 := by decide +kernel
theorem sq_vw3 : sq_vw (am_sB.getD 3 []).reverse = 555803826 := by decide +kernel
theorem sq_vw4 : sq_vw (am_sB.getD 4 []).reverse = 6953385550 := by decide +kernel
theorem sq_vw5 : sq_vw (am_sB.getD 5 []).reverse = 251276 := by decide +kernel
theorem sq_vw6 : sq_vw (am_sB.getD 6 []).reverse = 677454 := by decide +kernel
theorem sq_vw7 : sq_vw (am_sB.getD 7 []).reverse = 17092712 := by decide +kernel
theorem sq_vw8 : sq_vw (am_sB.getD 8 []).reverse = 674919554696 := by decide +kernel
theorem sq_vw9 : sq_vw (am_sB.getD 9 []).reverse = 17171557 := by decide +kernel
theorem sq_vw10 : sq_vw (am_sB.getD 10 []).reverse = 492210354 := by decide +kernel
theorem sq_vw11 : sq_vw (am_sB.getD 11 []).reverse = 365744 := by decide +kernel
theorem sq_vw12 : sq_vw (am_sB.getD 12 []).reverse = 215205 := by decide +kernel
theorem sq_vw13 : sq_vw (am_sB.getD 13 []).reverse = 624020 := by decide +kernel
theorem sq_vw14 : sq_vw (am_sB.getD 14 []).reverse = 294 := by decide +kernel
theorem sq_vw15 : sq_vw (am_sB.getD 15 []).reverse = 14836 := by decide +kernel
theorem sq_vw16 : sq_vw (am_sB.getD 16 []).reverse = 1476 := by decide +kernel
theorem sq_vw17 : sq_vw (am_sB.getD 17 []).reverse = 498 := by decide +kernel
