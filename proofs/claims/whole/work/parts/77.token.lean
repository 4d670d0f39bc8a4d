/-! LAYER 2: tokens (written by hand) -/
def sq_sk (T : Nat → Int32) : Nat → Nat → Nat
  | 0, p => p
  | l + 1, p => if sq_srt (T p) = 0 then sq_sk T l (p + 1) else p
def sq_nx (T : Nat → Int32) (n p : Nat) : Nat := sq_sk T (n - p) p
def sq_ru (T : Nat → Int32) (k : Nat) : Nat → Nat → Nat
  | 0, p => p
  | l + 1, p => if sq_srt (T p) = k then sq_ru T k l (p + 1) else p
def sq_te (T : Nat → Int32) (n p : Nat) : Nat := if p < n then (if sq_srt (T p) = 1 ∨ sq_srt (T p) = 2 then sq_ru T (sq_srt (T p)) (n - (p + 1)) (p + 1) else p + 1) else p
theorem sq_sk_le {T : Nat → Int32} : ∀ l p, p ≤ sq_sk T l p ∧ sq_sk T l p ≤ p + l := by
  intro l
  induction l with
  | zero => intro p; exact ⟨Nat.le_refl _, Nat.le_refl _⟩
  | succ l ih =>
    intro p
    rw [sq_sk]
    have := ih (p + 1)
    split <;> omega
theorem sq_ru_le {T : Nat → Int32} {k : Nat} : ∀ l p, p ≤ sq_ru T k l p ∧ sq_ru T k l p ≤ p + l ∧ ∀ i, p ≤ i → i < sq_ru T k l p → sq_srt (T i) = k := by
  intro l
  induction l with
  | zero => intro p; exact ⟨Nat.le_refl _, Nat.le_refl _, fun i h1 h2 => by rw [sq_ru] at h2; omega⟩
  | succ l ih =>
    intro p
    rw [sq_ru]
    by_cases h : sq_srt (T p) = k
    · rw [if_pos h]
      obtain ⟨h1, h2, h3⟩ := ih (p + 1)
      refine ⟨by omega, by omega, fun i hi hi2 => ?_⟩
      by_cases hip : i = p
      · rw [hip]; exact h
      · exact h3 i (by omega) hi2
    · rw [if_neg h]; exact ⟨Nat.le_refl _, by omega, fun i h1 h2 => by omega⟩
theorem sq_te_ok {T : Nat → Int32} {n p : Nat} (hp : p ≤ n) (hT : ∀ i, i < n → sq_N (T i) 255) : sq_tkL T n p (sq_te T n p) ∧ (p < n → p < sq_te T n p) := by
  unfold sq_te
  by_cases h : p < n
  · rw [if_pos h]
    by_cases hs : sq_srt (T p) = 1 ∨ sq_srt (T p) = 2
    · rw [if_pos hs]
      obtain ⟨h1, h2, h3⟩ := sq_ru_le (T := T) (k := sq_srt (T p)) (n - (p + 1)) (p + 1)
      refine ⟨⟨by omega, by omega, fun _ h1' i hi => ?_⟩, fun _ => by omega⟩
      refine (sq_ltr_srt (hT _ (by omega))).mp ?_
      by_cases hi0 : i = 0
      · rw [hi0]; exact h1'
      · rw [h3 (p + i) (by omega) (by omega)]; exact h1'
    · rw [if_neg hs]
      refine ⟨⟨by omega, by omega, fun _ h1 => absurd (Or.inl h1) hs⟩, fun _ => by omega⟩
  · rw [if_neg h]
    exact ⟨⟨Nat.le_refl _, hp, fun h1 => absurd h1 h⟩, fun h1 => absurd h1 h⟩
theorem sq_srt0 {c : Int32} : sq_srt c = 0 ↔ c = 32 := by
  unfold sq_srt
  by_cases h : c = 32
  · rw [if_pos h]; exact ⟨fun _ => h, fun _ => rfl⟩
  · rw [if_neg h]
    refine ⟨fun z => ?_, fun z => absurd z h⟩
    exfalso; revert z; split
    · simp
    · split <;> simp
def sq_pK (k j : Nat) : Bool := k == 82 && (j == 23 || j == 24)
theorem sq_MX_24 {T : Nat → Int32} {n p e q : Nat} {s : am_S} (h : sq_MX T n p e s) : sq_MX T n p q (am_sI s 82 24 (Int32.ofNat q)) := by
  obtain ⟨hn, h22, h23, h24, hT⟩ := h
  exact ⟨hn, by rw [ix_sIj (by decide)]; exact h22, by rw [ix_sIj (by decide)]; exact h23, ix_sIs, fun i hi => by rw [ix_sIn (by decide)]; exact hT i hi⟩
theorem sq_MX_23 {T : Nat → Int32} {n p e q : Nat} {s : am_S} (h : sq_MX T n p e s) : sq_MX T n q e (am_sI s 82 23 (Int32.ofNat q)) := by
  obtain ⟨hn, h22, h23, h24, hT⟩ := h
  exact ⟨hn, by rw [ix_sIj (by decide)]; exact h22, ix_sIs, by rw [ix_sIj (by decide)]; exact h24, fun i hi => by rw [ix_sIn (by decide)]; exact hT i hi⟩
/-- the run of a token's bytes: k 1 letters, 2 digits -/
theorem mz_run {T : Nat → Int32} {n p k : Nat} (hk : k = 1 ∨ k = 2) : ∀ (l q f : Nat) (s : am_S), q + l = n → l < f → sq_MX T n p q s → ∃ s', F_X12_token_82_b86 f (if k = 1 then 1 else 0) (if k = 2 then 1 else 0) s = some s' ∧ sq_MX T n p (sq_ru T k l q) s' ∧ ix_F2 sq_pK s s' := by
  intro l
  induction l with
  | zero =>
    intro q f s hq hf h
    obtain ⟨f, rfl⟩ : ∃ g, f = g + 1 := ⟨f - 1, by omega⟩
    refine ⟨s, ?_, h, ix_F2.rf⟩
    have hm1 : ix_wi (-1) 97 122 = 0 := by decide
    have hm2 : ix_wi (-1) 48 57 = 0 := by decide
    have hb := mz_byteAt (q := q) h (by omega)
    rw [if_neg (by omega)] at hb
    rcases hk with rfl | rfl
    · rw [F_X12_token_82_b86, if_pos (show (1 : Nat) = 1 from rfl), if_neg (show ¬ (1 : Nat) = 2 by decide), if_neg (show ¬ (1 : Int32) = 0 by decide), h.2.2.2.1, hb, ix_b1]
      dsimp only
      rw [mz_letter, hm1, ix_b1]
      dsimp only
      rw [if_pos (show (0 : Int32) = 0 from rfl), F_X12_token_82_b104, if_pos (show (0 : Int32) = 0 from rfl)]
    · rw [F_X12_token_82_b86, if_neg (show ¬ (2 : Nat) = 1 by decide), if_pos (show (2 : Nat) = 2 from rfl), if_pos (show (0 : Int32) = 0 from rfl), F_X12_token_82_b104, if_neg (show ¬ (1 : Int32) = 0 by decide), h.2.2.2.1, hb, ix_b1]
      dsimp only
      rw [mz_digit, hm2, ix_b1]
      dsimp only
      rw [if_pos (show (0 : Int32) = 0 from rfl)]
  | succ l ih =>
    intro q f s hq hf h
    obtain ⟨f, rfl⟩ : ∃ g, f = g + 1 := ⟨f - 1, by omega⟩
    have hb := mz_byteAt (q := q) h (by omega)
    rw [if_pos (show q < n by omega)] at hb
    have h24 := h.2.2.2.1
    obtain ⟨s', i1, i2, i3⟩ := ih (q + 1) f (am_sI s 82 24 (Int32.ofNat (q + 1))) (by omega) (by omega) (sq_MX_24 h)
    have f1 : ix_F2 sq_pK s s' := (ix_F2.I (by rfl)).tr i3
    rw [sq_ru]
    rcases hk with rfl | rfl
    · rw [if_pos (show (1 : Nat) = 1 from rfl), if_neg (show ¬ (1 : Nat) = 2 by decide)] at i1 ⊢
      rw [F_X12_token_82_b86, if_neg (show ¬ (1 : Int32) = 0 by decide), h24, hb, ix_b1]
      dsimp only
      rw [mz_letter, sq_wi1, ix_b1]
      dsimp only
      by_cases hs : sq_srt (T q) = 1
      · rw [if_pos hs, if_neg (show ¬ (1 : Int32) = 0 by decide), F_X12_token_82_b122, h24, ix_addL, ix_b1, if_pos hs]
        exact ⟨s', i1, i2, f1⟩
      · rw [if_neg hs, if_pos (show (0 : Int32) = 0 from rfl), F_X12_token_82_b104, if_pos (show (0 : Int32) = 0 from rfl), if_neg hs]
        exact ⟨s, rfl, h, ix_F2.rf⟩
    · rw [if_neg (show ¬ (2 : Nat) = 1 by decide), if_pos (show (2 : Nat) = 2 from rfl)] at i1 ⊢
      rw [F_X12_token_82_b86, if_pos (show (0 : Int32) = 0 from rfl), F_X12_token_82_b104, if_neg (show ¬ (1 : Int32) = 0 by decide), h24, hb, ix_b1]
      dsimp only
      rw [mz_digit, sq_wi2, ix_b1]
      dsimp only
      by_cases hs : sq_srt (T q) = 2
      · rw [if_pos hs, if_neg (show ¬ (1 : Int32) = 0 by decide), F_X12_token_82_b122, h24, ix_addL, ix_b1, if_pos hs]
        exact ⟨s', i1, i2, f1⟩
      · rw [if_neg hs, if_pos (show (0 : Int32) = 0 from rfl), if_neg hs]
        exact ⟨s, rfl, h, ix_F2.rf⟩
theorem mz_none {T : Nat → Int32} {n p q f : Nat} {s : am_S} (h : sq_MX T n p q s) : F_X12_token_82_b86 (f + 1) 0 0 s = some s := by
  rw [F_X12_token_82_b86, if_pos (show (0 : Int32) = 0 from rfl), F_X12_token_82_b104, if_pos (show (0 : Int32) = 0 from rfl)]
/-- the first byte of a token stands at q -/
theorem mz_tok1 {T : Nat → Int32} {n q e : Nat} {s : am_S} (h : sq_MX T n q e s) (hq : q < n) : ∃ s', F_X12_token_82_b83 (ix_wi (T q) 97 122) (ix_wi (T q) 48 57) (Int32.ofNat (q + 1)) s = some s' ∧ sq_MX T n q (sq_te T n q) s' ∧ ix_F2 sq_pK s s' := by
  have h1 := sq_MX_24 (q := q + 1) h
  have f1 : ix_F2 sq_pK s (am_sI s 82 24 (Int32.ofNat (q + 1))) := ix_F2.I (by rfl)
  rw [F_X12_token_82_b83, ix_b1, sq_wi1, sq_wi2]
  unfold sq_te
  rw [if_pos hq]
  by_cases hs1 : sq_srt (T q) = 1
  · obtain ⟨s', i1, i2, i3⟩ := mz_run (k := 1) (Or.inl rfl) (n - (q + 1)) (q + 1) 1000 _ (by omega) (by have := h.1; omega) h1
    rw [if_pos (show (1 : Nat) = 1 from rfl), if_neg (show ¬ (1 : Nat) = 2 by decide)] at i1
    rw [if_pos hs1, if_neg (show ¬ sq_srt (T q) = 2 by omega), if_pos (Or.inl hs1), hs1]
    exact ⟨s', i1, i2, f1.tr i3⟩
  · by_cases hs2 : sq_srt (T q) = 2
    · obtain ⟨s', i1, i2, i3⟩ := mz_run (k := 2) (Or.inr rfl) (n - (q + 1)) (q + 1) 1000 _ (by omega) (by have := h.1; omega) h1
      rw [if_neg (show ¬ (2 : Nat) = 1 by decide), if_pos (show (2 : Nat) = 2 from rfl)] at i1
      rw [if_neg hs1, if_pos hs2, if_pos (Or.inr hs2), hs2]
      exact ⟨s', i1, i2, f1.tr i3⟩
    · rw [if_neg hs1, if_neg hs2, if_neg (show ¬ (sq_srt (T q) = 1 ∨ sq_srt (T q) = 2) by omega), mz_none h1]
      exact ⟨_, rfl, h1, f1⟩
theorem mz_tokL {T : Nat → Int32} {n e : Nat} : ∀ (l q f : Nat) (s : am_S), q + l = n → l < f → sq_MX T n q e s → ∃ s', F_X12_token_82_b8 f s = some s' ∧ sq_MX T n (sq_sk T l q) (sq_te T n (sq_sk T l q)) s' ∧ ix_F2 sq_pK s s' := by
  intro l
  induction l with
  | zero =>
    intro q f s hq hf h
    obtain ⟨f, rfl⟩ : ∃ g, f = g + 1 := ⟨f - 1, by omega⟩
    obtain ⟨hn, h22, h23, h24, hT⟩ := id h
    have hb := mz_byteAt (q := q) h (by omega)
    rw [if_neg (by omega)] at hb
    have hm1 : ix_wi (-1) 97 122 = 0 := by decide
    have hm2 : ix_wi (-1) 48 57 = 0 := by decide
    have hm3 : ¬ (-1 : Int32) = 32 := by decide
    have h1 := sq_MX_24 (q := q) h
    refine ⟨am_sI s 82 24 (Int32.ofNat q), ?_, ?_, ix_F2.I (by rfl)⟩
    · rw [F_X12_token_82_b8, h23, hb, ix_b1]
      dsimp only
      rw [if_neg hm3, h23, hb, ix_b1]
      dsimp only
      rw [mz_letter, hm1, ix_b1]
      dsimp only
      rw [h23, hb, ix_b1]
      dsimp only
      rw [mz_digit, hm2, ix_b1]
      dsimp only
      rw [h22, h23, if_pos (by rw [ix_le (by omega) (by omega)]; omega), F_X12_token_82_b83, ix_b1, mz_none h1]
    · rw [sq_sk]; unfold sq_te; rw [if_neg (by omega)]; exact h1
  | succ l ih =>
    intro q f s hq hf h
    obtain ⟨f, rfl⟩ : ∃ g, f = g + 1 := ⟨f - 1, by omega⟩
    obtain ⟨hn, h22, h23, h24, hT⟩ := id h
    have hb := mz_byteAt (q := q) h (by omega)
    rw [if_pos (show q < n by omega)] at hb
    rw [F_X12_token_82_b8, h23, hb, ix_b1, sq_sk]
    dsimp only
    by_cases hs : T q = 32
    · rw [if_pos hs, if_pos (sq_srt0.mpr hs), h23, ix_addL, ix_b1]
      obtain ⟨s', i1, i2, i3⟩ := ih (q + 1) f _ (by omega) (by omega) (sq_MX_23 (q := q + 1) h)
      exact ⟨s', i1, i2, (ix_F2.I (by rfl)).tr i3⟩
    · rw [if_neg hs, if_neg (fun z => hs (sq_srt0.mp z)), h23, hb, ix_b1]
      dsimp only
      rw [mz_letter, ix_b1]
      dsimp only
      rw [h23, hb, ix_b1]
      dsimp only
      rw [mz_digit, ix_b1]
      dsimp only
      rw [h22, h23, if_neg (by rw [ix_le (by omega) (by omega)]; omega), ix_addL]
      exact mz_tok1 h (by omega)
/-- the next token -/
theorem mz_token {T : Nat → Int32} {n p e : Nat} {s : am_S} (h : sq_MX T n p e s) (he : e ≤ n) : ∃ s', F_X12_token_82 s = some s' ∧ sq_MX T n (sq_nx T n e) (sq_te T n (sq_nx T n e)) s' ∧ ix_F2 sq_pK s s' := by
  obtain ⟨s', i1, i2, i3⟩ := mz_tokL (n - e) e 1000 _ (by omega) (by have := h.1; omega) (sq_MX_23 (q := e) h)
  refine ⟨s', ?_, i2, (ix_F2.I (by rfl)).tr i3⟩
  rw [F_X12_token_82, h.2.2.2.1, ix_b1]
  exact i1
theorem sq_nx_le {T : Nat → Int32} {n p : Nat} (hp : p ≤ n) : p ≤ sq_nx T n p ∧ sq_nx T n p ≤ n := by
  have := sq_sk_le (T := T) (n - p) p
  unfold sq_nx; omega
