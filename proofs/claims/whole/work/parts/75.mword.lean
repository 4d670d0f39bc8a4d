/-! LAYER 2: the model's word (written by hand) -/
theorem ix_64o {a : Nat} (ha : a < 4611686018427387904) : (Int64.ofNat a).toInt = a := Int64.toInt_ofNat_of_lt (by omega)
theorem sq_cmp_le {a b : Nat} (ha : a < 4611686018427387904) (hb : b < 4611686018427387904) : lg_cmp (Int64.ofNat a) (Int64.ofNat b) ≤ 0 ↔ a ≤ b := by
  rw [lg_cmp_le, Int64.le_iff_toInt_le, ix_64o ha, ix_64o hb]; omega
theorem sq_cmp_eq {a b : Nat} (ha : a < 4611686018427387904) (hb : b < 4611686018427387904) : lg_cmp (Int64.ofNat a) (Int64.ofNat b) = 0 ↔ a = b := by
  rw [lg_cmp_eq, ← Int64.toInt_inj, ix_64o ha, ix_64o hb]; omega
theorem sq_ltr_srt {c : Int32} (h : sq_N c 255) : sq_srt c = 1 ↔ sq_ltr c := by
  obtain ⟨k, hk, rfl⟩ := h
  unfold sq_srt sq_ltr
  rw [ix_nat (by omega)]
  have e32 : Int32.ofNat k = 32 ↔ k = 32 := ix_eqL (by omega) (by omega)
  have e97 : (97 : Int32) ≤ Int32.ofNat k ↔ 97 ≤ k := ix_Lle (by omega) (by omega)
  have e122 : Int32.ofNat k ≤ (122 : Int32) ↔ k ≤ 122 := ix_leL (by omega) (by omega)
  simp only [e32, e97, e122]
  by_cases h0 : k = 32
  · rw [if_pos h0]; omega
  · rw [if_neg h0]
    by_cases h1 : 97 ≤ k ∧ k ≤ 122
    · rw [if_pos h1]; exact ⟨fun _ => h1, fun _ => rfl⟩
    · rw [if_neg h1]
      constructor
      · intro h; exfalso; revert h; split <;> simp
      · intro h; exact absurd h h1
/-- the model's text -/
def sq_MX (T : Nat → Int32) (n p e : Nat) (s : am_S) : Prop := n ≤ 200 ∧ s.1 82 22 = Int32.ofNat n ∧ s.1 82 23 = Int32.ofNat p ∧ s.1 82 24 = Int32.ofNat e ∧ ∀ i, i < n → s.1 92 i = T i ∧ sq_N (T i) 255
theorem mz_byteAt {T : Nat → Int32} {n p e q : Nat} {s : am_S} (h : sq_MX T n p e s) (hq : q ≤ n) : F_X12_byteAt_82 (Int32.ofNat q) s = some (if q < n then T q else -1, s) := by
  obtain ⟨hn, h22, h23, h24, hT⟩ := h
  unfold F_X12_byteAt_82
  rw [h22]
  by_cases hqn : q < n
  · rw [if_neg (by rw [ix_le (by omega) (by omega)]; omega), if_pos ((ix_in (by omega)).mpr (by omega)), ix_nat (by omega), (hT q hqn).1, if_pos hqn]
  · rw [if_pos (by rw [ix_le (by omega) (by omega)]; omega), if_neg hqn]
theorem mz_letter {c : Int32} {s : am_S} : F_X12_isLetter c s = some (ix_wi c 97 122, s) := by
  unfold F_X12_isLetter
  rw [mz_in97x122, ix_b1]
  exact if_pos ix_wi_or
theorem mz_digit {c : Int32} {s : am_S} : F_X12_isDigit c s = some (ix_wi c 48 57, s) := by
  unfold F_X12_isDigit
  rw [mz_in48x57, ix_b1]
  exact if_pos ix_wi_or
theorem sq_wi1 {c : Int32} : ix_wi c 97 122 = if sq_srt c = 1 then 1 else 0 := by
  unfold sq_srt ix_wi
  by_cases h0 : c = 32
  · rw [if_pos h0, if_neg (by rw [h0]; decide)]; rfl
  · rw [if_neg h0]
    by_cases h1 : 97 ≤ c ∧ c ≤ 122
    · rw [if_pos h1, if_pos h1]; rfl
    · rw [if_neg h1, if_neg h1]; split <;> rfl
theorem sq_wi2 {c : Int32} : ix_wi c 48 57 = if sq_srt c = 2 then 1 else 0 := by
  unfold sq_srt ix_wi
  by_cases h0 : c = 32
  · rw [if_pos h0, if_neg (by rw [h0]; decide)]; rfl
  · rw [if_neg h0]
    by_cases h1 : 97 ≤ c ∧ c ≤ 122
    · have h2 : ¬ (48 ≤ c ∧ c ≤ 57) := by
        rintro ⟨-, z⟩
        have h3 := h1.1
        rw [ix_le'] at z h3
        have e1 : (57 : Int32).toInt = 57 := rfl
        have e2 : (97 : Int32).toInt = 97 := rfl
        omega
      rw [if_pos h1, if_neg h2]; rfl
    · rw [if_neg h1]
      by_cases h2 : 48 ≤ c ∧ c ≤ 57
      · rw [if_pos h2, if_pos h2]; rfl
      · rw [if_neg h2, if_neg h2]; rfl
/-- what the loop of a word ends in, with x found -/
def sq_wf (T : Nat → Int32) (n p : Nat) (s : am_S) (x : Int64) : Option (Int64 × am_S) := if s.1 82 28 = 0 then (if p < n ∧ sq_srt (T p) = 1 then some (x, s) else some (0, s)) else some (0, s)
theorem mz_wend {T : Nat → Int32} {n p e : Nat} {s : am_S} {x1 : Int64} {f : Nat} (h : sq_MX T n p e s) (hp : p ≤ n) (he : e ≤ n) : F_X12_word_82_b7 (f + 1) x1 (Int32.ofNat e) s = sq_wf T n p s x1 := by
  obtain ⟨hn, h22, h23, h24, hT⟩ := id h
  rw [F_X12_word_82_b7, h24, if_pos (by rw [ix_le (by omega) (by omega)]; omega)]
  unfold sq_wf
  by_cases h28 : s.1 82 28 = 0
  · rw [if_pos h28, if_pos h28, h23, mz_byteAt h hp, ix_b1]
    dsimp only
    rw [mz_letter, ix_b1, sq_wi1]
    dsimp only
    by_cases hpn : p < n
    · rw [if_pos hpn]
      by_cases hs : sq_srt (T p) = 1
      · rw [if_pos hs, if_neg (show ¬ (1 : Int32) = 0 by decide), if_pos ⟨hpn, hs⟩]
      · rw [if_neg hs, if_pos (show (0 : Int32) = 0 from rfl), if_neg (show ¬ (p < n ∧ sq_srt (T p) = 1) from fun z => hs z.2)]
    · have : sq_srt (-1) = 3 := by decide
      rw [if_neg hpn, this, if_neg (show ¬ (3 : Nat) = 1 by decide), if_pos (show (0 : Int32) = 0 from rfl), if_neg (show ¬ (p < n ∧ sq_srt (T p) = 1) from fun z => hpn z.1)]
  · rw [if_neg h28, if_neg h28]
theorem mz_wany {T : Nat → Int32} {n p e : Nat} {s : am_S} (h : sq_MX T n p e s) (hp : p ≤ n) (he : e ≤ n) : ∀ (l q f : Nat) (x1 : Int64), q + l = e → l < f → ∃ x, F_X12_word_82_b7 f x1 (Int32.ofNat q) s = sq_wf T n p s x := by
  obtain ⟨hn, h22, h23, h24, hT⟩ := id h
  intro l
  induction l with
  | zero =>
    intro q f x1 hq hf
    obtain ⟨f, rfl⟩ : ∃ g, f = g + 1 := ⟨f - 1, by omega⟩
    have : q = e := by omega
    subst this
    exact ⟨x1, mz_wend h hp he⟩
  | succ l ih =>
    intro q f x1 hq hf
    obtain ⟨f, rfl⟩ : ∃ g, f = g + 1 := ⟨f - 1, by omega⟩
    have hi : am_in (Int32.ofNat q) 200 := (ix_in (by omega)).mpr (by omega)
    rw [F_X12_word_82_b7, h24, if_neg (by rw [ix_le (by omega) (by omega)]; omega), F_X12_word_82_b43, F_X12_word_82_b43, ix_addL]
    split
    · exact ih (q + 1) f _ (by omega) (by omega)
    · exact ih (q + 1) f _ (by omega) (by omega)
theorem sq_hw_lt {T : Nat → Int32} {p : Nat} : ∀ l, (∀ i, i < l → sq_N (T (p + i)) 255) → sq_hw T p l < 2000000000000000000 := by
  intro l
  induction l with
  | zero => intro _; show 0 < _; omega
  | succ l ih =>
    intro h
    have h1 := ih (fun i hi => h i (by omega))
    obtain ⟨k, hk, ek⟩ := h l (by omega)
    rw [sq_hw, ek, ix_nat (by omega)]
    split <;> omega
theorem mz_wlet {T : Nat → Int32} {n p e : Nat} {s : am_S} (h : sq_MX T n p e s) (hp : p ≤ e) (he : e ≤ n) (hl : ∀ i, i < e - p → sq_ltr (T (p + i))) : ∀ (l k f : Nat), p + k + l = e → l < f → F_X12_word_82_b7 f (Int64.ofNat (sq_hw T p k)) (Int32.ofNat (p + k)) s = sq_wf T n p s (Int64.ofNat (sq_hw T p (e - p))) := by
  obtain ⟨hn, h22, h23, h24, hT⟩ := id h
  intro l
  induction l with
  | zero =>
    intro k f hq hf
    obtain ⟨f, rfl⟩ : ∃ g, f = g + 1 := ⟨f - 1, by omega⟩
    have e1 : p + k = e := by omega
    have e2 : k = e - p := by omega
    rw [e1, mz_wend h (by omega) he, ← e2]
  | succ l ih =>
    intro k f hq hf
    obtain ⟨f, rfl⟩ : ∃ g, f = g + 1 := ⟨f - 1, by omega⟩
    have hi : am_in (Int32.ofNat (p + k)) 200 := (ix_in (by omega)).mpr (by omega)
    have hnq : (Int32.ofNat (p + k)).toNatClampNeg = p + k := ix_nat (by omega)
    obtain ⟨x, hx, ex⟩ := (hT (p + k) (by omega)).2
    have hlt := hl k (by omega)
    unfold sq_ltr at hlt
    rw [ex, ix_nat (by omega)] at hlt
    have hwl := sq_hw_lt (T := T) (p := p) k (fun i hi => (hT (p + i) (by omega)).2)
    have hcap : (36028797018963967 : Int64) = Int64.ofNat 36028797018963967 := rfl
    have hnext := ih (k + 1) f (by omega) (by omega)
    rw [F_X12_word_82_b7, h24, if_neg (by rw [ix_le (by omega) (by omega)]; omega), F_X12_word_82_b43, F_X12_word_82_b43, ix_addL, hcap]
    by_cases hc : sq_hw T p k ≤ 36028797018963967
    · rw [if_pos ((sq_cmp_le (by omega) (by omega)).mpr hc), if_pos hi]
      simp only [hnq]
      have hv : (32 : Int64) * Int64.ofNat (sq_hw T p k) + (s.1 92 (p + k) - 96).toInt64 = Int64.ofNat (sq_hw T p (k + 1)) := by
        rw [(hT (p + k) (by omega)).1, ex, ix_subL _ _ (by omega)]
        have e3 : sq_hw T p (k + 1) = 32 * sq_hw T p k + (x - 96) := by
          rw [sq_hw, if_pos hc, ex, ix_nat (by omega)]
        rw [e3, ← Int64.toInt_inj, Int64.toInt_add, Int64.toInt_mul, ix_64o (by omega), ix_64o (by omega), Int32.toInt_toInt64, ix_int (by omega)]
        have e4 : (32 : Int64).toInt = 32 := rfl
        rw [e4, Int.bmod_eq_of_le (n := 32 * ((sq_hw T p k : Nat) : Int)) (by omega) (by omega), Int.bmod_eq_of_le (by omega) (by omega)]
        omega
      rw [hv]
      exact hnext
    · rw [if_neg (fun z => hc ((sq_cmp_le (by omega) (by omega)).mp z))]
      have e3 : sq_hw T p (k + 1) = sq_hw T p k := by rw [sq_hw, if_neg hc]
      rw [e3] at hnext
      exact hnext
/-- a token of letters has letters only -/
def sq_tkL (T : Nat → Int32) (n p e : Nat) : Prop := p ≤ e ∧ e ≤ n ∧ (p < n → sq_srt (T p) = 1 → ∀ i, i < e - p → sq_ltr (T (p + i)))
theorem mz_word {T : Nat → Int32} {n p e : Nat} {s : am_S} (h : sq_MX T n p e s) (ht : sq_tkL T n p e) : F_X12_word_82 s = some (Int64.ofNat (if s.1 82 28 = 0 ∧ p < n ∧ sq_srt (T p) = 1 then sq_hw T p (e - p) else 0), s) := by
  obtain ⟨hp, he, hl⟩ := ht
  obtain ⟨hn, h22, h23, h24, hT⟩ := id h
  unfold F_X12_word_82
  rw [h23]
  by_cases hc : p < n ∧ sq_srt (T p) = 1
  · have hx := mz_wlet h hp he (hl hc.1 hc.2) (e - p) 0 1000 (by omega) (by omega)
    have hx' : F_X12_word_82_b7 1000 0 (Int32.ofNat p) s = _ := hx
    rw [hx']
    unfold sq_wf
    by_cases h28 : s.1 82 28 = 0
    · rw [if_pos h28, if_pos hc, if_pos ⟨h28, hc⟩]
    · rw [if_neg h28, if_neg (show ¬ (s.1 82 28 = 0 ∧ p < n ∧ sq_srt (T p) = 1) from fun z => h28 z.1)]; rfl
  · obtain ⟨x, hx⟩ := mz_wany h (by omega) he (e - p) p 1000 0 (by omega) (by omega)
    rw [hx]
    unfold sq_wf
    rw [if_neg (show ¬ (s.1 82 28 = 0 ∧ p < n ∧ sq_srt (T p) = 1) from fun z => hc z.2)]
    by_cases h28 : s.1 82 28 = 0
    · rw [if_pos h28, if_neg hc]; rfl
    · rw [if_neg h28]; rfl
theorem sq_is_1 {T : Nat → Int32} {n p e k : Nat} (hk : k < 18) (he : e ≤ n) (hT : ∀ i, i < n → sq_N (T i) 255) (h : sq_is T p e k = true) : p < n ∧ sq_srt (T p) = 1 := by
  unfold sq_is at h
  rw [Bool.and_eq_true, decide_eq_true_eq] at h
  obtain ⟨h1, h2⟩ := h
  obtain ⟨h8, h3, -⟩ := sq_sBok k hk
  refine ⟨by omega, (sq_ltr_srt (hT p (by omega))).mpr ?_⟩
  have hw := sq_wv k hk
  cases hb : am_sB.getD k [] with
  | nil => rw [hb] at h3; simp at h3
  | cons b r =>
    rw [hb] at h2 hw
    rw [sq_rdb, Bool.and_eq_true, decide_eq_true_eq] at h2
    rw [h2.1]
    exact (hw b (by simp)).1
/-- is the word at hand the one of this number -/
theorem sq_wordis {T : Nat → Int32} {n p e k : Nat} {fl : Int32} (hk : k < 18) (hn : n ≤ 200) (ht : sq_tkL T n p e) (hT : ∀ i, i < n → sq_N (T i) 255) : lg_cmp (Int64.ofNat (if fl = 0 ∧ p < n ∧ sq_srt (T p) = 1 then sq_hw T p (e - p) else 0)) (Int64.ofNat (sq_vw (am_sB.getD k []).reverse)) = 0 ↔ fl = 0 ∧ sq_is T p e k = true := by
  obtain ⟨hp, he, hl⟩ := ht
  have hv1 : sq_vw (am_sB.getD k []).reverse < 32 ^ 8 := Nat.lt_of_lt_of_le (sq_vw_lt _ (fun x hx => (sq_wv k hk x hx).1)) (by rw [List.length_reverse]; exact Nat.pow_le_pow_right (by decide) (sq_sBok k hk).1)
  have hv2 : (32 : Nat) ^ 8 = 1099511627776 := by decide
  have hpos : ∀ k, k < 18 → sq_vw (am_sB.getD k []).reverse ≠ 0 := by decide +kernel
  by_cases hc : fl = 0 ∧ p < n ∧ sq_srt (T p) = 1
  · have hwl := sq_hw_lt (T := T) (p := p) (e - p) (fun i hi => hT (p + i) (by omega))
    rw [if_pos hc, sq_cmp_eq (by omega) (by omega), sq_hw_is hk (fun i hi => ⟨hl hc.2.1 hc.2.2 i hi, hT (p + i) (by omega)⟩), show p + (e - p) = e by omega]
    exact ⟨fun z => ⟨hc.1, z⟩, fun z => z.2⟩
  · rw [if_neg hc, sq_cmp_eq (by omega) (by omega)]
    constructor
    · intro h; exact absurd h.symm (hpos k hk)
    · rintro ⟨h1, h2⟩; exact absurd ⟨h1, sq_is_1 hk he hT h2⟩ hc
