/-! LAYER 2: what a token is, in the class's code (written by hand) -/
def sq_WW (k : Nat) : Int32 := [(10030 : Int32), 10031, 10032, 10033, 10034, 10035, 10000, 10001, 10002, 10003, 10004, 10040, 10041, 10042, 10050, 10020, 10021, 10022].getD k 0
theorem sq_rdb_eq {T : Nat → Int32} : ∀ (bs cs : List Int32) (p : Nat), bs.length = cs.length → sq_rdb T p bs = true → sq_rdb T p cs = true → bs = cs := by
  intro bs
  induction bs with
  | nil =>
    intro cs p hl _ _
    cases cs with
    | nil => rfl
    | cons c r => simp at hl
  | cons b r ih =>
    intro cs p hl h1 h2
    cases cs with
    | nil => simp at hl
    | cons c q =>
      rw [sq_rdb, Bool.and_eq_true, decide_eq_true_eq] at h1 h2
      rw [List.length_cons, List.length_cons] at hl
      rw [ih q (p + 1) (by omega) h1.2 h2.2, ← h1.1, ← h2.1]
theorem sq_sB_inj : ∀ k, k < 18 → ∀ k', k' < 18 → am_sB.getD k [] = am_sB.getD k' [] → k = k' := by decide +kernel
theorem sq_is_inj {T : Nat → Int32} {p e k k' : Nat} (hk : k < 18) (hk' : k' < 18) (h : sq_is T p e k = true) (h' : sq_is T p e k' = true) : k = k' := by
  unfold sq_is at h h'
  rw [Bool.and_eq_true, decide_eq_true_eq] at h h'
  exact sq_sB_inj k hk k' hk' (sq_rdb_eq _ _ p (by omega) h.2 h'.2)
theorem sq_wc_W {T : Nat → Int32} {p e k : Nat} (hk : k < 18) (h : sq_is T p e k = true) : sq_wc T p e = sq_WW k := by
  have hb : ∀ k', k' < 18 → sq_is T p e k' = decide (k' = k) := by
    intro k' hk'
    by_cases he : k' = k
    · rw [he, h, decide_eq_true rfl]
    · rw [decide_eq_false he]
      cases hh : sq_is T p e k' with
      | false => rfl
      | true => exact absurd (sq_is_inj hk' hk hh h) he
  unfold sq_wc sq_kd sq_fwd
  simp only [hb 0 (by omega), hb 1 (by omega), hb 2 (by omega), hb 3 (by omega), hb 4 (by omega), hb 5 (by omega), hb 6 (by omega), hb 7 (by omega), hb 8 (by omega), hb 9 (by omega), hb 10 (by omega), hb 11 (by omega), hb 12 (by omega), hb 13 (by omega), hb 14 (by omega), hb 15 (by omega), hb 16 (by omega), hb 17 (by omega)]
  clear hb h
  revert hk
  revert k
  decide +kernel
theorem sq_wc_no {T : Nat → Int32} {p e : Nat} (h : ∀ k, k < 18 → sq_is T p e k = false) : sq_wc T p e = 10055 := by
  unfold sq_wc sq_kd sq_fwd
  simp only [h 0 (by omega), h 1 (by omega), h 2 (by omega), h 3 (by omega), h 4 (by omega), h 5 (by omega), h 6 (by omega), h 7 (by omega), h 8 (by omega), h 9 (by omega), h 10 (by omega), h 11 (by omega), h 12 (by omega), h 13 (by omega), h 14 (by omega), h 15 (by omega), h 16 (by omega), h 17 (by omega)]
  decide
/-- the digits of a number -/
theorem sq_te_d {T : Nat → Int32} {n p : Nat} (hp : p < n) (h : sq_srt (T p) = 2) : ∀ i, i < sq_te T n p - p → p + i < n ∧ sq_srt (T (p + i)) = 2 := by
  intro i hi
  have hle := sq_te_le (T := T) (n := n) (p := p) (by omega)
  refine ⟨by omega, ?_⟩
  unfold sq_te at hi
  rw [if_pos hp, if_pos (Or.inr h)] at hi
  obtain ⟨a1, a2, a3⟩ := sq_ru_le (T := T) (k := sq_srt (T p)) (n - (p + 1)) (p + 1)
  by_cases h0 : i = 0
  · rw [h0]; exact h
  · rw [a3 (p + i) (by omega) (by omega)]; exact h
theorem sq_cc_x {T : Nat → Int32} {n p : Nat} (hT : ∀ i, i < n → sq_N (T i) 255) :
    (p < n ∧ sq_srt (T p) = 1 ∧ ∃ k, k < 18 ∧ sq_is T p (sq_te T n p) k = true ∧ sq_cc T n p = sq_WW k) ∨
    (p < n ∧ sq_srt (T p) = 1 ∧ (∀ k, k < 18 → sq_is T p (sq_te T n p) k = false) ∧ sq_cc T n p = 10055) ∨
    (p < n ∧ sq_srt (T p) = 2 ∧ sq_te T n p - p ≤ 4 ∧ ∃ w, w < 10000 ∧ sq_nu T (sq_te T n p - p) p 0 = Int32.ofNat w ∧ sq_cc T n p = Int32.ofNat w) ∨
    (p < n ∧ sq_srt (T p) = 2 ∧ ¬ sq_te T n p - p ≤ 4 ∧ sq_cc T n p = 10055) ∨
    (p < n ∧ sq_srt (T p) ≠ 1 ∧ sq_srt (T p) ≠ 2 ∧ sq_cc T n p = sq_sg (T p)) ∨
    (¬ p < n ∧ sq_cc T n p = 10054) := by
  unfold sq_cc
  by_cases hp : p < n
  rotate_left
  · right; right; right; right; right
    exact ⟨hp, if_neg hp⟩
  rw [if_pos hp]
  unfold sq_cd
  by_cases h1 : sq_srt (T p) = 1
  · rw [if_pos h1]
    by_cases hk : ∃ k, k < 18 ∧ sq_is T p (sq_te T n p) k = true
    · left
      obtain ⟨k, k1, k2⟩ := hk
      exact ⟨hp, h1, k, k1, k2, sq_wc_W k1 k2⟩
    · right; left
      have hn : ∀ k, k < 18 → sq_is T p (sq_te T n p) k = false := by
        intro k k1
        cases hh : sq_is T p (sq_te T n p) k with
        | false => rfl
        | true => exact absurd ⟨k, k1, hh⟩ hk
      exact ⟨hp, h1, hn, sq_wc_no hn⟩
  · rw [if_neg h1]
    by_cases h2 : sq_srt (T p) = 2
    · rw [if_pos h2]
      unfold sq_no
      by_cases h4 : sq_te T n p - p ≤ 4
      · right; right; left
        rw [if_pos h4]
        obtain ⟨w, w1, w2⟩ := sq_nu_N hT (sq_te T n p - p) p 0 (sq_te_d hp h2) h4 (Nat.pos_of_ne_zero (by
          have : 10 ^ (4 - (sq_te T n p - p)) ≠ 0 := by simp
          exact this))
        have w2' : sq_nu T (sq_te T n p - p) p 0 = Int32.ofNat w := w2
        exact ⟨hp, h2, h4, w, w1, w2', w2'⟩
      · right; right; right; left
        rw [if_neg h4]
        exact ⟨hp, h2, h4, rfl⟩
    · right; right; right; right; left
      rw [if_neg h2]
      exact ⟨hp, h1, h2, rfl⟩
theorem sq_WW_le : ∀ k, k < 18 → (10000 : Int32) ≤ sq_WW k := by decide +kernel
theorem sq_WW_ne : ∀ k, k < 18 → sq_WW k ≠ 10010 ∧ sq_WW k ≠ 10011 ∧ sq_WW k ≠ 10012 ∧ sq_WW k ≠ 10051 ∧ sq_WW k ≠ 10052 ∧ sq_WW k ≠ 10053 ∧ sq_WW k ≠ 10054 ∧ sq_WW k ≠ 10055 := by decide +kernel
theorem sq_WW_inj : ∀ k, k < 18 → ∀ k', k' < 18 → sq_WW k = sq_WW k' → k = k' := by decide +kernel
theorem sq_sg_or (c : Int32) : sq_sg c = 10052 ∨ sq_sg c = 10053 ∨ sq_sg c = 10051 ∨ sq_sg c = 10010 ∨ sq_sg c = 10011 ∨ sq_sg c = 10012 ∨ sq_sg c = 10055 := by
  unfold sq_sg
  repeat' split
  all_goals simp
theorem sq_nb {w : Nat} (hw : w < 10000) {x : Int32} (hx : (10000 : Int32) ≤ x) : Int32.ofNat w ≠ x := by
  rintro rfl
  rw [ix_Lle (by omega) (by omega)] at hx
  omega
/-- is the token word k -/
theorem sq_cc_W {T : Nat → Int32} {n p k : Nat} (hp : p ≤ n) (hT : ∀ i, i < n → sq_N (T i) 255) (hk : k < 18) : sq_cc T n p = sq_WW k ↔ sq_is T p (sq_te T n p) k = true := by
  constructor
  · intro h
    obtain ⟨w1, w2, w3, w4, w5, w6, w7, w8⟩ := sq_WW_ne k hk
    rcases sq_cc_x (p := p) hT with ⟨-, -, k', k1, k2, k3⟩ | ⟨-, -, -, k3⟩ | ⟨-, -, -, w, k1, -, k3⟩ | ⟨-, -, -, k3⟩ | ⟨-, -, -, k3⟩ | ⟨-, k3⟩
    · rw [sq_WW_inj k hk k' k1 (by rw [← h, k3])]; exact k2
    · exact absurd (h.symm.trans k3) w8
    · exact absurd (k3.symm.trans h) (sq_nb k1 (sq_WW_le k hk))
    · exact absurd (h.symm.trans k3) w8
    · rw [h] at k3
      rcases sq_sg_or (T p) with e | e | e | e | e | e | e
      · exact absurd (k3.trans e) w5
      · exact absurd (k3.trans e) w6
      · exact absurd (k3.trans e) w4
      · exact absurd (k3.trans e) w1
      · exact absurd (k3.trans e) w2
      · exact absurd (k3.trans e) w3
      · exact absurd (k3.trans e) w8
    · exact absurd (h.symm.trans k3) w7
  · intro h
    obtain ⟨h1, h2⟩ := sq_is_1 hk (sq_te_le hp) hT h
    unfold sq_cc sq_cd
    rw [if_pos h1, if_pos h2]
    exact sq_wc_W hk h
/-- the signs -/
def sq_isg (b : Int32) : Prop := b = 40 ∨ b = 41 ∨ b = 59 ∨ b = 60 ∨ b = 61 ∨ b = 62
theorem sq_sg_inj {b c : Int32} (hb : sq_isg b) (h : sq_sg c = sq_sg b) : c = b := by
  unfold sq_isg at hb
  have h2 : sq_sg c ≠ 10055 := by
    rw [h]
    rcases hb with rfl | rfl | rfl | rfl | rfl | rfl <;> decide
  have h3 : sq_isg c := by
    unfold sq_isg
    unfold sq_sg at h2
    by_cases c1 : c = 40
    · exact Or.inl c1
    by_cases c2 : c = 41
    · exact Or.inr (Or.inl c2)
    by_cases c3 : c = 59
    · exact Or.inr (Or.inr (Or.inl c3))
    by_cases c4 : c = 60
    · exact Or.inr (Or.inr (Or.inr (Or.inl c4)))
    by_cases c5 : c = 61
    · exact Or.inr (Or.inr (Or.inr (Or.inr (Or.inl c5))))
    by_cases c6 : c = 62
    · exact Or.inr (Or.inr (Or.inr (Or.inr (Or.inr c6))))
    rw [if_neg c1, if_neg c2, if_neg c3, if_neg c4, if_neg c5, if_neg c6] at h2
    exact absurd rfl h2
  unfold sq_isg at h3
  revert h
  rcases hb with rfl | rfl | rfl | rfl | rfl | rfl <;> rcases h3 with rfl | rfl | rfl | rfl | rfl | rfl <;> decide
theorem sq_cc_S {T : Nat → Int32} {n p : Nat} {b : Int32} (hT : ∀ i, i < n → sq_N (T i) 255) (hb : sq_isg b) : sq_cc T n p = sq_sg b ↔ p < n ∧ T p = b := by
  have hb' := hb
  unfold sq_isg at hb'
  have g1 : sq_sg b ≠ 10055 ∧ sq_sg b ≠ 10054 ∧ (10000 : Int32) ≤ sq_sg b ∧ sq_srt b = 3 ∧ ∀ k, k < 18 → sq_WW k ≠ sq_sg b := by
    rcases hb' with rfl | rfl | rfl | rfl | rfl | rfl <;> decide +kernel
  obtain ⟨g1, g2, g3, g4, g5⟩ := g1
  constructor
  · intro h
    rcases sq_cc_x (p := p) hT with ⟨-, -, k', k1, k2, k3⟩ | ⟨-, -, -, k3⟩ | ⟨-, -, -, w, k1, -, k3⟩ | ⟨-, -, -, k3⟩ | ⟨k1, -, -, k3⟩ | ⟨-, k3⟩
    · exact absurd (k3.symm.trans h) (g5 k' k1)
    · exact absurd (h.symm.trans k3) g1
    · exact absurd (k3.symm.trans h) (sq_nb k1 g3)
    · exact absurd (h.symm.trans k3) g1
    · exact ⟨k1, sq_sg_inj hb (k3.symm.trans h)⟩
    · exact absurd (h.symm.trans k3) g2
  · rintro ⟨h1, h2⟩
    unfold sq_cc sq_cd
    rw [if_pos h1, h2, g4]
    rfl
theorem sq_cc_E {T : Nat → Int32} {n p : Nat} (hT : ∀ i, i < n → sq_N (T i) 255) : sq_cc T n p = 10054 ↔ ¬ p < n := by
  constructor
  · intro h
    rcases sq_cc_x (p := p) hT with ⟨-, -, k', k1, k2, k3⟩ | ⟨-, -, -, k3⟩ | ⟨-, -, -, w, k1, -, k3⟩ | ⟨-, -, -, k3⟩ | ⟨-, -, -, k3⟩ | ⟨k1, -⟩
    · exact absurd (k3.symm.trans h) (sq_WW_ne k' k1).2.2.2.2.2.2.1
    · exact absurd (h.symm.trans k3) (by decide)
    · exact absurd (k3.symm.trans h) (sq_nb k1 (by decide))
    · exact absurd (h.symm.trans k3) (by decide)
    · rw [h] at k3
      rcases sq_sg_or (T p) with e | e | e | e | e | e | e
      all_goals exact absurd (k3.trans e) (by decide)
    · exact k1
  · intro h
    unfold sq_cc
    rw [if_neg h]
