/-! LAYER 2: the class's tokens (written by hand) -/
def sq_sg (c : Int32) : Int32 := if c = 40 then 10052 else if c = 41 then 10053 else if c = 59 then 10051 else if c = 60 then 10010 else if c = 61 then 10011 else if c = 62 then 10012 else 10055
theorem cz_sg {c : Int32} {s : am_S} : F_X6_signOf c s = some (sq_sg c, s) := by
  unfold F_X6_signOf sq_sg
  split
  · rfl
  · split
    · rfl
    · split
      · rfl
      · split
        · rfl
        · split
          · rfl
          · split <;> rfl
def sq_nu (T : Nat → Int32) : Nat → Nat → Int32 → Int32
  | 0, _, x => x
  | l + 1, p, x => sq_nu T l (p + 1) (x * 10 + T p - 48)
theorem cz_nuL {e : Nat} {s : am_S} (he : e ≤ 200) : ∀ (l q f : Nat) (x : Int32), q + l = e → l < f → F_X6_numberOf_40_b16 f (Int32.ofNat e) x (Int32.ofNat q) s = some (sq_nu (s.1 41) l q x, s) := by
  intro l
  induction l with
  | zero =>
    intro q f x hq hf
    obtain ⟨f, rfl⟩ : ∃ g, f = g + 1 := ⟨f - 1, by omega⟩
    rw [F_X6_numberOf_40_b16, if_pos (by rw [ix_le (by omega) (by omega)]; omega)]
    rfl
  | succ l ih =>
    intro q f x hq hf
    obtain ⟨f, rfl⟩ : ∃ g, f = g + 1 := ⟨f - 1, by omega⟩
    have hnq : (Int32.ofNat q).toNatClampNeg = q := ix_nat (by omega)
    rw [F_X6_numberOf_40_b16, if_neg (by rw [ix_le (by omega) (by omega)]; omega), if_pos ((ix_in (by omega)).mpr (by omega)), ix_b1, hnq, ix_addL, ih (q + 1) f _ (by omega) (by omega), sq_nu]
def sq_no (T : Nat → Int32) (p e : Nat) : Int32 := if e - p ≤ 4 then sq_nu T (e - p) p 0 else 10055
theorem cz_no {p e : Nat} {s : am_S} (hp : p ≤ e) (he : e ≤ 200) : F_X6_numberOf_40 (Int32.ofNat p) (Int32.ofNat e) s = some (sq_no (s.1 41) p e, s) := by
  unfold F_X6_numberOf_40 sq_no
  rw [ix_sub _ _ hp]
  by_cases h : e - p ≤ 4
  · rw [if_pos (by rw [ix_leL (by omega) (by omega)]; exact h), if_pos h]
    exact cz_nuL he (e - p) p 1000 0 (by omega) (by omega)
  · rw [if_neg (by rw [ix_leL (by omega) (by omega)]; exact h), if_neg h]
/-- the class's code of the token that begins at p -/
def sq_cd (T : Nat → Int32) (n p : Nat) : Int32 := if sq_srt (T p) = 1 then sq_wc T p (sq_te T n p) else if sq_srt (T p) = 2 then sq_no T p (sq_te T n p) else sq_sg (T p)
theorem cz_b31 {p e k : Nat} {s : am_S} (hp : p ≤ e) (he : e ≤ 200) (hp2 : p < 200) (hk : k < 1000) : F_X6_tokenFrom_40_b31 (Int32.ofNat p) (Int32.ofNat k) (Int32.ofNat e) s = some (if k = 1 then sq_wc (s.1 41) p e else if k = 2 then sq_no (s.1 41) p e else sq_sg (s.1 41 p), s) := by
  have hnp : (Int32.ofNat p).toNatClampNeg = p := ix_nat (by omega)
  rw [F_X6_tokenFrom_40_b31]
  by_cases h1 : k = 1
  · rw [if_pos (by rw [ix_eqL (by omega) (by omega)]; exact h1), if_pos h1, cz_wdw hp he, ix_b1]
  · rw [if_neg (by rw [ix_eqL (by omega) (by omega)]; exact h1), if_neg h1]
    by_cases h2 : k = 2
    · rw [if_pos (by rw [ix_eqL (by omega) (by omega)]; exact h2), if_pos h2, cz_no hp he, ix_b1]
    · rw [if_neg (by rw [ix_eqL (by omega) (by omega)]; exact h2), if_neg h2, if_pos ((ix_in (by omega)).mpr hp2), hnp, cz_sg, ix_b1]
theorem sq_srt_lt {c : Int32} : sq_srt c < 4 := by
  unfold sq_srt
  split
  · omega
  · split
    · omega
    · split <;> omega
theorem cz_tfL {n p k : Nat} {s : am_S} (hn : n ≤ 200) (h0 : s.1 40 0 = Int32.ofNat n) (hp : p < n) (hk : k < 4) : ∀ (l q f : Nat), q + l = n → p ≤ q → l < f → F_X6_tokenFrom_40_b4 f (Int32.ofNat p) (Int32.ofNat k) (Int32.ofNat q) s = some (if k = 1 then sq_wc (s.1 41) p (sq_ru (s.1 41) k l q) else if k = 2 then sq_no (s.1 41) p (sq_ru (s.1 41) k l q) else sq_sg (s.1 41 p), s) := by
  intro l
  induction l with
  | zero =>
    intro q f hq hpq hf
    obtain ⟨f, rfl⟩ : ∃ g, f = g + 1 := ⟨f - 1, by omega⟩
    rw [F_X6_tokenFrom_40_b4, h0, if_pos (by rw [ix_le (by omega) (by omega)]; omega), cz_b31 hpq (by omega) (by omega) (by omega)]
    rfl
  | succ l ih =>
    intro q f hq hpq hf
    obtain ⟨f, rfl⟩ : ∃ g, f = g + 1 := ⟨f - 1, by omega⟩
    have hnq : (Int32.ofNat q).toNatClampNeg = q := ix_nat (by omega)
    have h4 := sq_srt_lt (c := s.1 41 q)
    rw [F_X6_tokenFrom_40_b4, h0, if_neg (by rw [ix_le (by omega) (by omega)]; omega), if_pos ((ix_in (by omega)).mpr (by omega)), hnq, cz_srt, ix_b1, sq_ru]
    dsimp only
    by_cases h : sq_srt (s.1 41 q) = k
    · rw [if_pos (by rw [h]), if_pos h, ix_addL]
      exact ih (q + 1) f (by omega) (by omega) (by omega)
    · rw [if_neg (by rw [ix_eq (by omega) (by omega)]; exact h), if_neg h]
      exact cz_b31 hpq (by omega) (by omega) (by omega)
theorem cz_tokenFrom {n p : Nat} {s : am_S} (hn : n ≤ 200) (h0 : s.1 40 0 = Int32.ofNat n) (hp : p < n) : F_X6_tokenFrom_40 (Int32.ofNat p) (Int32.ofNat (sq_srt (s.1 41 p))) s = some (sq_cd (s.1 41) n p, s) := by
  have h := cz_tfL hn h0 hp (sq_srt_lt (c := s.1 41 p)) (n - (p + 1)) (p + 1) 1000 (by omega) (by omega) (by omega)
  unfold F_X6_tokenFrom_40
  rw [ix_addL, h]
  unfold sq_cd sq_te
  rw [if_pos hp]
  by_cases h1 : sq_srt (s.1 41 p) = 1
  · rw [if_pos h1, if_pos h1, if_pos (Or.inl h1)]
  · rw [if_neg h1, if_neg h1]
    by_cases h2 : sq_srt (s.1 41 p) = 2
    · rw [if_pos h2, if_pos h2, if_pos (Or.inr h2)]
    · rw [if_neg h2, if_neg h2]
