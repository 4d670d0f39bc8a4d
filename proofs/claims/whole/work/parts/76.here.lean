/-! LAYER 2: the model's words at hand (written by wip/whole/l2/gen76.py) -/
def sq_wx (T : Nat → Int32) (n p e : Nat) (s : am_S) : Int64 := Int64.ofNat (if s.1 82 28 = 0 ∧ p < n ∧ sq_srt (T p) = 1 then sq_hw T p (e - p) else 0)
theorem sq_MX_N {T : Nat → Int32} {n p e : Nat} {s : am_S} (h : sq_MX T n p e s) : ∀ i, i < n → sq_N (T i) 255 := fun i hi => (h.2.2.2.2 i hi).2
theorem mz_wordx {T : Nat → Int32} {n p e : Nat} {s : am_S} (h : sq_MX T n p e s) (ht : sq_tkL T n p e) : F_X12_word_82 s = some (sq_wx T n p e s, s) := mz_word h ht
theorem sq_wx0 {T : Nat → Int32} {n p e : Nat} {s : am_S} (h : sq_MX T n p e s) (ht : sq_tkL T n p e) : lg_cmp (sq_wx T n p e s) (23569509 : Int64) = 0 ↔ s.1 82 28 = 0 ∧ sq_is T p e 0 = true := by
  have hh := sq_wordis (k := 0) (fl := s.1 82 28) (by omega) h.1 ht (sq_MX_N h)
  rw [sq_vw0] at hh
  exact hh
theorem sq_wx1 {T : Nat → Int32} {n p e : Nat} {s : am_S} (h : sq_MX T n p e s) (ht : sq_tkL T n p e) : lg_cmp (sq_wx T n p e s) (3417476 : Int64) = 0 ↔ s.1 82 28 = 0 ∧ sq_is T p e 1 = true := by
  have hh := sq_wordis (k := 1) (fl := s.1 82 28) (by omega) h.1 ht (sq_MX_N h)
  rw [sq_vw1] at hh
  exact hh
theorem sq_wx2 {T : Nat → Int32} {n p e : Nat} {s : am_S} (h : sq_MX T n p e s) (ht : sq_tkL T n p e) : lg_cmp (sq_wx T n p e s) (18959911084 : Int64) = 0 ↔ s.1 82 28 = 0 ∧ sq_is T p e 2 = true := by
  have hh := sq_wordis (k := 2) (fl := s.1 82 28) (by omega) h.1 ht (sq_MX_N h)
  rw [sq_vw2] at hh
  exact hh
theorem sq_wx3 {T : Nat → Int32} {n p e : Nat} {s : am_S} (h : sq_MX T n p e s) (ht : sq_tkL T n p e) : lg_cmp (sq_wx T n p e s) (555803826 : Int64) = 0 ↔ s.1 82 28 = 0 ∧ sq_is T p e 3 = true := by
  have hh := sq_wordis (k := 3) (fl := s.1 82 28) (by omega) h.1 ht (sq_MX_N h)
  rw [sq_vw3] at hh
  exact hh
theorem sq_wx4 {T : Nat → Int32} {n p e : Nat} {s : am_S} (h : sq_MX T n p e s) (ht : sq_tkL T n p e) : lg_cmp (sq_wx T n p e s) (6953385550 : Int64) = 0 ↔ s.1 82 28 = 0 ∧ sq_is T p e 4 = true := by
  have hh := sq_wordis (k := 4) (fl := s.1 82 28) (by omega) h.1 ht (sq_MX_N h)
  rw [sq_vw4] at hh
  exact hh
theorem sq_wx5 {T : Nat → Int32} {n p e : Nat} {s : am_S} (h : sq_MX T n p e s) (ht : sq_tkL T n p e) : lg_cmp (sq_wx T n p e s) (251276 : Int64) = 0 ↔ s.1 82 28 = 0 ∧ sq_is T p e 5 = true := by
  have hh := sq_wordis (k := 5) (fl := s.1 82 28) (by omega) h.1 ht (sq_MX_N h)
  rw [sq_vw5] at hh
  exact hh
theorem sq_wx6 {T : Nat → Int32} {n p e : Nat} {s : am_S} (h : sq_MX T n p e s) (ht : sq_tkL T n p e) : lg_cmp (sq_wx T n p e s) (677454 : Int64) = 0 ↔ s.1 82 28 = 0 ∧ sq_is T p e 6 = true := by
  have hh := sq_wordis (k := 6) (fl := s.1 82 28) (by omega) h.1 ht (sq_MX_N h)
  rw [sq_vw6] at hh
  exact hh
theorem sq_wx7 {T : Nat → Int32} {n p e : Nat} {s : am_S} (h : sq_MX T n p e s) (ht : sq_tkL T n p e) : lg_cmp (sq_wx T n p e s) (17092712 : Int64) = 0 ↔ s.1 82 28 = 0 ∧ sq_is T p e 7 = true := by
  have hh := sq_wordis (k := 7) (fl := s.1 82 28) (by omega) h.1 ht (sq_MX_N h)
  rw [sq_vw7] at hh
  exact hh
theorem sq_wx8 {T : Nat → Int32} {n p e : Nat} {s : am_S} (h : sq_MX T n p e s) (ht : sq_tkL T n p e) : lg_cmp (sq_wx T n p e s) (674919554696 : Int64) = 0 ↔ s.1 82 28 = 0 ∧ sq_is T p e 8 = true := by
  have hh := sq_wordis (k := 8) (fl := s.1 82 28) (by omega) h.1 ht (sq_MX_N h)
  rw [sq_vw8] at hh
  exact hh
theorem sq_wx9 {T : Nat → Int32} {n p e : Nat} {s : am_S} (h : sq_MX T n p e s) (ht : sq_tkL T n p e) : lg_cmp (sq_wx T n p e s) (17171557 : Int64) = 0 ↔ s.1 82 28 = 0 ∧ sq_is T p e 9 = true := by
  have hh := sq_wordis (k := 9) (fl := s.1 82 28) (by omega) h.1 ht (sq_MX_N h)
  rw [sq_vw9] at hh
  exact hh
theorem sq_wx10 {T : Nat → Int32} {n p e : Nat} {s : am_S} (h : sq_MX T n p e s) (ht : sq_tkL T n p e) : lg_cmp (sq_wx T n p e s) (492210354 : Int64) = 0 ↔ s.1 82 28 = 0 ∧ sq_is T p e 10 = true := by
  have hh := sq_wordis (k := 10) (fl := s.1 82 28) (by omega) h.1 ht (sq_MX_N h)
  rw [sq_vw10] at hh
  exact hh
theorem sq_wx11 {T : Nat → Int32} {n p e : Nat} {s : am_S} (h : sq_MX T n p e s) (ht : sq_tkL T n p e) : lg_cmp (sq_wx T n p e s) (365744 : Int64) = 0 ↔ s.1 82 28 = 0 ∧ sq_is T p e 11 = true := by
  have hh := sq_wordis (k := 11) (fl := s.1 82 28) (by omega) h.1 ht (sq_MX_N h)
  rw [sq_vw11] at hh
  exact hh
theorem sq_wx12 {T : Nat → Int32} {n p e : Nat} {s : am_S} (h : sq_MX T n p e s) (ht : sq_tkL T n p e) : lg_cmp (sq_wx T n p e s) (215205 : Int64) = 0 ↔ s.1 82 28 = 0 ∧ sq_is T p e 12 = true := by
  have hh := sq_wordis (k := 12) (fl := s.1 82 28) (by omega) h.1 ht (sq_MX_N h)
  rw [sq_vw12] at hh
  exact hh
theorem sq_wx13 {T : Nat → Int32} {n p e : Nat} {s : am_S} (h : sq_MX T n p e s) (ht : sq_tkL T n p e) : lg_cmp (sq_wx T n p e s) (624020 : Int64) = 0 ↔ s.1 82 28 = 0 ∧ sq_is T p e 13 = true := by
  have hh := sq_wordis (k := 13) (fl := s.1 82 28) (by omega) h.1 ht (sq_MX_N h)
  rw [sq_vw13] at hh
  exact hh
theorem sq_wx14 {T : Nat → Int32} {n p e : Nat} {s : am_S} (h : sq_MX T n p e s) (ht : sq_tkL T n p e) : lg_cmp (sq_wx T n p e s) (294 : Int64) = 0 ↔ s.1 82 28 = 0 ∧ sq_is T p e 14 = true := by
  have hh := sq_wordis (k := 14) (fl := s.1 82 28) (by omega) h.1 ht (sq_MX_N h)
  rw [sq_vw14] at hh
  exact hh
theorem sq_wx15 {T : Nat → Int32} {n p e : Nat} {s : am_S} (h : sq_MX T n p e s) (ht : sq_tkL T n p e) : lg_cmp (sq_wx T n p e s) (14836 : Int64) = 0 ↔ s.1 82 28 = 0 ∧ sq_is T p e 15 = true := by
  have hh := sq_wordis (k := 15) (fl := s.1 82 28) (by omega) h.1 ht (sq_MX_N h)
  rw [sq_vw15] at hh
  exact hh
theorem sq_wx16 {T : Nat → Int32} {n p e : Nat} {s : am_S} (h : sq_MX T n p e s) (ht : sq_tkL T n p e) : lg_cmp (sq_wx T n p e s) (1476 : Int64) = 0 ↔ s.1 82 28 = 0 ∧ sq_is T p e 16 = true := by
  have hh := sq_wordis (k := 16) (fl := s.1 82 28) (by omega) h.1 ht (sq_MX_N h)
  rw [sq_vw16] at hh
  exact hh
theorem sq_wx17 {T : Nat → Int32} {n p e : Nat} {s : am_S} (h : sq_MX T n p e s) (ht : sq_tkL T n p e) : lg_cmp (sq_wx T n p e s) (498 : Int64) = 0 ↔ s.1 82 28 = 0 ∧ sq_is T p e 17 = true := by
  have hh := sq_wordis (k := 17) (fl := s.1 82 28) (by omega) h.1 ht (sq_MX_N h)
  rw [sq_vw17] at hh
  exact hh
theorem mz_kindHere {T : Nat → Int32} {n p e : Nat} {s : am_S} (h : sq_MX T n p e s) (ht : sq_tkL T n p e) : F_X12_kindHere_82 s = some (if s.1 82 28 = 0 then sq_kd T p e else -1, s) := by
  unfold F_X12_kindHere_82
  rw [mz_wordx h ht, ix_b1]
  dsimp only
  by_cases h28 : s.1 82 28 = 0
  · rw [if_pos h28]
    by_cases q0 : sq_is T p e 0 = true
    · rw [if_pos ((sq_wx0 h ht).mpr ⟨h28, q0⟩)]
      unfold sq_kd; rw [if_pos q0]
    by_cases q1 : sq_is T p e 1 = true
    · rw [if_neg (fun z => q0 ((sq_wx0 h ht).mp z).2), if_pos ((sq_wx1 h ht).mpr ⟨h28, q1⟩)]
      unfold sq_kd; rw [if_neg q0, if_pos q1]
    by_cases q2 : sq_is T p e 2 = true
    · rw [if_neg (fun z => q0 ((sq_wx0 h ht).mp z).2), if_neg (fun z => q1 ((sq_wx1 h ht).mp z).2), if_pos ((sq_wx2 h ht).mpr ⟨h28, q2⟩)]
      unfold sq_kd; rw [if_neg q0, if_neg q1, if_pos q2]
    by_cases q3 : sq_is T p e 3 = true
    · rw [if_neg (fun z => q0 ((sq_wx0 h ht).mp z).2), if_neg (fun z => q1 ((sq_wx1 h ht).mp z).2), if_neg (fun z => q2 ((sq_wx2 h ht).mp z).2), if_pos ((sq_wx3 h ht).mpr ⟨h28, q3⟩)]
      unfold sq_kd; rw [if_neg q0, if_neg q1, if_neg q2, if_pos q3]
    by_cases q4 : sq_is T p e 4 = true
    · rw [if_neg (fun z => q0 ((sq_wx0 h ht).mp z).2), if_neg (fun z => q1 ((sq_wx1 h ht).mp z).2), if_neg (fun z => q2 ((sq_wx2 h ht).mp z).2), if_neg (fun z => q3 ((sq_wx3 h ht).mp z).2), if_pos ((sq_wx4 h ht).mpr ⟨h28, q4⟩)]
      unfold sq_kd; rw [if_neg q0, if_neg q1, if_neg q2, if_neg q3, if_pos q4]
    by_cases q5 : sq_is T p e 5 = true
    · rw [if_neg (fun z => q0 ((sq_wx0 h ht).mp z).2), if_neg (fun z => q1 ((sq_wx1 h ht).mp z).2), if_neg (fun z => q2 ((sq_wx2 h ht).mp z).2), if_neg (fun z => q3 ((sq_wx3 h ht).mp z).2), if_neg (fun z => q4 ((sq_wx4 h ht).mp z).2), if_pos ((sq_wx5 h ht).mpr ⟨h28, q5⟩)]
      unfold sq_kd; rw [if_neg q0, if_neg q1, if_neg q2, if_neg q3, if_neg q4, if_pos q5]
    rw [if_neg (fun z => q0 ((sq_wx0 h ht).mp z).2), if_neg (fun z => q1 ((sq_wx1 h ht).mp z).2), if_neg (fun z => q2 ((sq_wx2 h ht).mp z).2), if_neg (fun z => q3 ((sq_wx3 h ht).mp z).2), if_neg (fun z => q4 ((sq_wx4 h ht).mp z).2), if_neg (fun z => q5 ((sq_wx5 h ht).mp z).2)]
    unfold sq_kd; rw [if_neg q0, if_neg q1, if_neg q2, if_neg q3, if_neg q4, if_neg q5]
  · rw [if_neg h28, if_neg (fun z => h28 ((sq_wx0 h ht).mp z).1), if_neg (fun z => h28 ((sq_wx1 h ht).mp z).1), if_neg (fun z => h28 ((sq_wx2 h ht).mp z).1), if_neg (fun z => h28 ((sq_wx3 h ht).mp z).1), if_neg (fun z => h28 ((sq_wx4 h ht).mp z).1), if_neg (fun z => h28 ((sq_wx5 h ht).mp z).1)]
def sq_fm (T : Nat → Int32) (p e : Nat) : Int32 := if sq_is T p e 6 = true then -1 else if sq_is T p e 7 = true then -2 else if sq_is T p e 8 = true then -3 else if sq_is T p e 9 = true then -4 else if sq_is T p e 10 = true then -5 else 0
theorem mz_factHere {T : Nat → Int32} {n p e : Nat} {s : am_S} (h : sq_MX T n p e s) (ht : sq_tkL T n p e) : F_X12_factHere_82 s = some (if s.1 82 28 = 0 then sq_fm T p e else 0, s) := by
  unfold F_X12_factHere_82
  rw [mz_wordx h ht, ix_b1]
  dsimp only
  by_cases h28 : s.1 82 28 = 0
  · rw [if_pos h28]
    by_cases q6 : sq_is T p e 6 = true
    · rw [if_pos ((sq_wx6 h ht).mpr ⟨h28, q6⟩)]
      unfold sq_fm; rw [if_pos q6]
    by_cases q7 : sq_is T p e 7 = true
    · rw [if_neg (fun z => q6 ((sq_wx6 h ht).mp z).2), if_pos ((sq_wx7 h ht).mpr ⟨h28, q7⟩)]
      unfold sq_fm; rw [if_neg q6, if_pos q7]
    by_cases q8 : sq_is T p e 8 = true
    · rw [if_neg (fun z => q6 ((sq_wx6 h ht).mp z).2), if_neg (fun z => q7 ((sq_wx7 h ht).mp z).2), if_pos ((sq_wx8 h ht).mpr ⟨h28, q8⟩)]
      unfold sq_fm; rw [if_neg q6, if_neg q7, if_pos q8]
    by_cases q9 : sq_is T p e 9 = true
    · rw [if_neg (fun z => q6 ((sq_wx6 h ht).mp z).2), if_neg (fun z => q7 ((sq_wx7 h ht).mp z).2), if_neg (fun z => q8 ((sq_wx8 h ht).mp z).2), if_pos ((sq_wx9 h ht).mpr ⟨h28, q9⟩)]
      unfold sq_fm; rw [if_neg q6, if_neg q7, if_neg q8, if_pos q9]
    by_cases q10 : sq_is T p e 10 = true
    · rw [if_neg (fun z => q6 ((sq_wx6 h ht).mp z).2), if_neg (fun z => q7 ((sq_wx7 h ht).mp z).2), if_neg (fun z => q8 ((sq_wx8 h ht).mp z).2), if_neg (fun z => q9 ((sq_wx9 h ht).mp z).2), if_pos ((sq_wx10 h ht).mpr ⟨h28, q10⟩)]
      unfold sq_fm; rw [if_neg q6, if_neg q7, if_neg q8, if_neg q9, if_pos q10]
    rw [if_neg (fun z => q6 ((sq_wx6 h ht).mp z).2), if_neg (fun z => q7 ((sq_wx7 h ht).mp z).2), if_neg (fun z => q8 ((sq_wx8 h ht).mp z).2), if_neg (fun z => q9 ((sq_wx9 h ht).mp z).2), if_neg (fun z => q10 ((sq_wx10 h ht).mp z).2)]
    unfold sq_fm; rw [if_neg q6, if_neg q7, if_neg q8, if_neg q9, if_neg q10]
  · rw [if_neg h28, if_neg (fun z => h28 ((sq_wx6 h ht).mp z).1), if_neg (fun z => h28 ((sq_wx7 h ht).mp z).1), if_neg (fun z => h28 ((sq_wx8 h ht).mp z).1), if_neg (fun z => h28 ((sq_wx9 h ht).mp z).1), if_neg (fun z => h28 ((sq_wx10 h ht).mp z).1)]
