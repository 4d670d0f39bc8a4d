/-! LAYER 2: the text of rules: sorts of bytes, words (written by hand) -/
def sq_srt (c : Int32) : Nat := if c = 32 then 0 else if 97 ≤ c ∧ c ≤ 122 then 1 else if 48 ≤ c ∧ c ≤ 57 then 2 else 3
theorem cz_srt {c : Int32} {s : am_S} : F_X6_sortOf c s = some (Int32.ofNat (sq_srt c), s) := by
  have hb : ¬ (97 ≤ c ∧ c ≤ 122) → ¬ c = 32 → F_X6_sortOf_b22 c s = some (Int32.ofNat (sq_srt c), s) := by
    intro h1 h0
    unfold F_X6_sortOf_b22 sq_srt
    rw [if_neg h0, if_neg h1]
    by_cases h2 : c < 48
    · rw [if_pos h2, if_neg (fun z => absurd h2 (Int32.not_lt.mpr z.1))]; rfl
    · rw [if_neg h2]
      by_cases h3 : 57 < c
      · rw [if_pos h3, if_neg (fun z => absurd h3 (Int32.not_lt.mpr z.2))]; rfl
      · rw [if_neg h3, if_pos ⟨Int32.not_lt.mp h2, Int32.not_lt.mp h3⟩]; rfl
  unfold F_X6_sortOf
  by_cases h0 : c = 32
  · rw [if_pos h0]; unfold sq_srt; rw [if_pos h0]; rfl
  · rw [if_neg h0]
    by_cases h1 : c < 97
    · rw [if_pos h1]; exact hb (fun z => absurd h1 (Int32.not_lt.mpr z.1)) h0
    · rw [if_neg h1]
      by_cases h2 : 122 < c
      · rw [if_pos h2]; exact hb (fun z => absurd h2 (Int32.not_lt.mpr z.2)) h0
      · rw [if_neg h2]
        unfold sq_srt
        rw [if_neg h0, if_pos ⟨Int32.not_lt.mp h1, Int32.not_lt.mp h2⟩]; rfl
/-- the text from p on begins with these bytes -/
def sq_rdb (T : Nat → Int32) : Nat → List Int32 → Bool
  | _, [] => true
  | p, b :: r => decide (T p = b) && sq_rdb T (p + 1) r
def sq_byL (bs : List Int32) : Prop := ∀ i, i < bs.length → am_i2c ((bs.getD i 0) &&& (255 : Int32)) = bs.getD i 0 ∧ narrow .char (.int (bs.getD i 0)) = .int (bs.getD i 0)
theorem cz_chr {bs : List Int32} {i : Nat} {s : am_S} (hb : sq_byL bs) (hi : i < bs.length) (hl : bs.length < 1000) : F_J0_charAt_5068e bs (Int32.ofNat i) s = some (bs.getD i 0, s) := by
  obtain ⟨h1, h2⟩ := hb i hi
  have hn : (Int32.ofNat i).toNatClampNeg = i := ix_nat (by omega)
  have hin : am_in (Int32.ofNat i) bs.length := (ix_in (by omega)).mpr hi
  have hc : F_J1_charAt_3b067 bs (Int32.ofNat i) s = some (bs.getD i 0, s) := by
    unfold F_J1_charAt_3b067 F_J0_checkIndex_df160 F_J3_checkIndex_8e157
    rw [if_neg (ix_nn (by omega)), if_pos (by rw [ix_lt (by omega) (by omega)]; exact hi), ix_b1, ix_b1, if_pos hin]
    simp only [hn, h1]
    rw [if_pos h2]
  unfold F_J0_charAt_5068e F_J0_isLatin1_aae02
  rw [if_neg (show ¬ (1 : Int32) = 0 by decide), if_pos (show (0 : Int32) = 0 from rfl), ix_b1]
  dsimp only
  rw [if_neg (show ¬ (1 : Int32) = 0 by decide), hc, ix_b1, if_pos h2]
theorem sq_rdb_d {T : Nat → Int32} {bs : List Int32} {i p : Nat} (hi : i < bs.length) : sq_rdb T p (bs.drop i) = (decide (T p = bs.getD i 0) && sq_rdb T (p + 1) (bs.drop (i + 1))) := by
  rw [List.drop_eq_getElem_cons hi, sq_rdb, List.getD_eq_getElem?_getD, List.getElem?_eq_getElem hi]
  rfl
theorem cz_rdL {bs : List Int32} {p : Nat} {s : am_S} (hb : sq_byL bs) (hl : bs.length < 1000) (hp : p + bs.length ≤ 200) : ∀ (l i f : Nat), i + l = bs.length → l < f → F_X6_reads_40_b15 bs f (Int32.ofNat p) (Int32.ofNat (p + bs.length)) (Int32.ofNat (p + i)) s = some (if sq_rdb (s.1 41) (p + i) (bs.drop i) = true then 1 else 0, s) := by
  intro l
  induction l with
  | zero =>
    intro i f hi hf
    obtain ⟨f, rfl⟩ : ∃ g, f = g + 1 := ⟨f - 1, by omega⟩
    have : bs.drop i = [] := List.drop_eq_nil_of_le (by omega)
    rw [F_X6_reads_40_b15, if_pos (by rw [ix_le (by omega) (by omega)]; omega), this]
    rfl
  | succ l ih =>
    intro i f hi hf
    obtain ⟨f, rfl⟩ : ∃ g, f = g + 1 := ⟨f - 1, by omega⟩
    have hin : am_in (Int32.ofNat (p + i)) 200 := (ix_in (by omega)).mpr (by omega)
    have hn : (Int32.ofNat (p + i)).toNatClampNeg = p + i := ix_nat (by omega)
    have hs : Int32.ofNat (p + i) - Int32.ofNat p = Int32.ofNat i := by rw [ix_sub _ _ (by omega)]; congr 1; omega
    rw [F_X6_reads_40_b15, if_neg (by rw [ix_le (by omega) (by omega)]; omega), if_pos hin, hs, cz_chr hb (by omega) hl, ix_b1, sq_rdb_d (by omega)]
    simp only [hn]
    by_cases h : s.1 41 (p + i) = bs.getD i 0
    · rw [if_pos h, ix_addL, decide_eq_true h, Bool.true_and]
      exact ih (i + 1) f (by omega) (by omega)
    · rw [if_neg h, decide_eq_false h, Bool.false_and]; rfl
theorem cz_reads {bs : List Int32} {p e : Nat} {s : am_S} (hb : sq_byL bs) (hl : bs.length < 1000) (hpe : p ≤ e) (he : e ≤ 200) : F_X6_reads_40 bs (Int32.ofNat p) (Int32.ofNat e) s = some (if e = p + bs.length ∧ sq_rdb (s.1 41) p bs = true then 1 else 0, s) := by
  have hsh : Int32.ofNat bs.length >>> ((0 : Int32) &&& 31) = Int32.ofNat bs.length := by
    have : (0 : Int32) &&& 31 = 0 := by decide
    rw [this, Int32.shiftRight_zero]
  unfold F_X6_reads_40 F_J0_length_8abf5 F_J0_coder_7d493
  rw [if_neg (show ¬ (1 : Int32) = 0 by decide), ix_b1]
  dsimp only
  rw [hsh, ix_b1, ix_sub _ _ hpe]
  dsimp only
  by_cases h : e = p + bs.length
  · have hx := cz_rdL (s := s) hb hl (p := p) (by omega) bs.length 0 1000 (by omega) (by omega)
    rw [if_pos (show Int32.ofNat (e - p) = Int32.ofNat bs.length by rw [h]; congr 1; omega), h]
    have hx' : F_X6_reads_40_b15 bs 1000 (Int32.ofNat p) (Int32.ofNat (p + bs.length)) (Int32.ofNat p) s = _ := hx
    rw [hx']
    simp only [Nat.add_zero, List.drop_zero, true_and]
  · rw [if_neg (by rw [ix_eq (by omega) (by omega)]; omega), if_neg (fun z => h z.1)]
/-! the model's word, as a number -/
def sq_hw (T : Nat → Int32) (p : Nat) : Nat → Nat
  | 0 => 0
  | l + 1 => if sq_hw T p l ≤ 36028797018963967 then 32 * sq_hw T p l + ((T (p + l)).toNatClampNeg - 96) else sq_hw T p l
/-- a word's number, from its last letter on -/
def sq_vw : List Int32 → Nat
  | [] => 0
  | b :: r => 32 * sq_vw r + (b.toNatClampNeg - 96)
def sq_ltr (c : Int32) : Prop := 97 ≤ c.toNatClampNeg ∧ c.toNatClampNeg ≤ 122
def sq_bk (T : Nat → Int32) (p : Nat) : List Int32 → Nat → Prop
  | [], l => l = 0
  | b :: r, l => ∃ k, l = k + 1 ∧ T (p + k) = b ∧ sq_bk T p r k
theorem sq_rdb_a {T : Nat → Int32} {b : Int32} : ∀ (W : List Int32) (p : Nat), sq_rdb T p (W ++ [b]) = (sq_rdb T p W && decide (T (p + W.length) = b)) := by
  intro W
  induction W with
  | nil => intro p; simp [sq_rdb]
  | cons a r ih =>
    intro p
    rw [List.cons_append, sq_rdb, ih (p + 1), sq_rdb, Bool.and_assoc, List.length_cons, show p + 1 + r.length = p + (r.length + 1) by omega]
theorem sq_bk_x {T : Nat → Int32} {p : Nat} : ∀ (R : List Int32) (l : Nat), sq_bk T p R l ↔ l = R.length ∧ sq_rdb T p R.reverse = true := by
  intro R
  induction R with
  | nil => intro l; simp [sq_bk, sq_rdb]
  | cons b r ih =>
    intro l
    rw [sq_bk, List.reverse_cons, sq_rdb_a, List.length_cons, List.length_reverse, Bool.and_eq_true, decide_eq_true_eq]
    constructor
    · rintro ⟨k, rfl, h1, h2⟩
      obtain ⟨h3, h4⟩ := (ih k).mp h2
      subst h3
      exact ⟨rfl, h4, h1⟩
    · rintro ⟨h1, h2, h3⟩
      exact ⟨r.length, h1, h3, (ih r.length).mpr ⟨rfl, h2⟩⟩
theorem sq_vw_lt : ∀ (R : List Int32), (∀ b ∈ R, sq_ltr b) → sq_vw R < 32 ^ R.length := by
  intro R
  induction R with
  | nil => intro _; simp [sq_vw]
  | cons b r ih =>
    intro h
    have h1 := ih (fun x hx => h x (List.mem_cons_of_mem _ hx))
    have h2 := h b List.mem_cons_self
    unfold sq_ltr at h2
    rw [sq_vw, List.length_cons, Nat.pow_succ]
    omega
theorem sq_hw_x {T : Nat → Int32} {p : Nat} : ∀ (R : List Int32) (l : Nat), (∀ b ∈ R, sq_ltr b ∧ sq_N b 255) → R.length ≤ 11 → (∀ i, i < l → sq_ltr (T (p + i)) ∧ sq_N (T (p + i)) 255) → (sq_hw T p l = sq_vw R ↔ sq_bk T p R l) := by
  intro R
  induction R with
  | nil =>
    intro l _ _ hT
    rw [sq_bk, sq_vw]
    have hpos : ∀ l, (∀ i, i < l → sq_ltr (T (p + i)) ∧ sq_N (T (p + i)) 255) → l ≠ 0 → 1 ≤ sq_hw T p l := by
      intro l
      induction l with
      | zero => intro _ h; exact absurd rfl h
      | succ l ih =>
        intro hT _
        have h2 := (hT l (by omega)).1
        unfold sq_ltr at h2
        rw [sq_hw]
        split
        · omega
        · omega
    constructor
    · intro h
      by_cases h0 : l = 0
      · exact h0
      · have := hpos l hT h0; omega
    · rintro rfl; rfl
  | cons b r ih =>
    intro l hR hlen hT
    rw [sq_bk, sq_vw]
    have hb := hR b List.mem_cons_self
    have hb1 := hb.1
    unfold sq_ltr at hb1
    have hr : ∀ x ∈ r, sq_ltr x ∧ sq_N x 255 := fun x hx => hR x (List.mem_cons_of_mem _ hx)
    have hlen' : r.length ≤ 10 := by rw [List.length_cons] at hlen; omega
    have hv : sq_vw (b :: r) < 32 ^ 11 := Nat.lt_of_lt_of_le (sq_vw_lt (b :: r) (fun x hx => (hR x hx).1)) (Nat.pow_le_pow_right (by decide) hlen)
    have hvr : sq_vw r < 32 ^ 11 := Nat.lt_of_lt_of_le (sq_vw_lt r (fun x hx => (hr x hx).1)) (Nat.pow_le_pow_right (by decide) (by omega))
    rw [sq_vw] at hv
    have hcap : 32 ^ 11 = 36028797018963968 := by decide
    cases l with
    | zero =>
      constructor
      · intro h; have : (0 : Nat) = 32 * sq_vw r + (b.toNatClampNeg - 96) := h; omega
      · rintro ⟨k, hk, -⟩; omega
    | succ l =>
      have ihl := ih l hr (by omega) (fun i hi => hT i (by omega))
      have hTl := hT l (by omega)
      have hT1 := hTl.1
      unfold sq_ltr at hT1
      rw [sq_hw]
      by_cases hc : sq_hw T p l ≤ 36028797018963967
      · rw [if_pos hc]
        constructor
        · intro h
          refine ⟨l, rfl, ?_, ihl.mp (by omega)⟩
          obtain ⟨x, hx, ex⟩ := hTl.2
          obtain ⟨y, hy, ey⟩ := hb.2
          have hxx : (T (p + l)).toNatClampNeg = x := by rw [ex, ix_nat (by omega)]
          have hyy : b.toNatClampNeg = y := by rw [ey, ix_nat (by omega)]
          rw [ex, ey]
          congr 1; omega
        · rintro ⟨k, hk, h1, h2⟩
          have : k = l := by omega
          subst this
          rw [ihl.mpr h2, h1]
      · rw [if_neg hc]
        constructor
        · intro h; omega
        · rintro ⟨k, hk, h1, h2⟩
          have : k = l := by omega
          subst this
          have := ihl.mpr h2
          omega
