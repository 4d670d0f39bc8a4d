/-! LAYER 3: the law's loop answers 1 (written by wip/whole/l2/gen90.py) -/
theorem la_244 {L p : Nat} {xs : Nat → Int32} {k18 : Int32 → am_S → Option (Int32 × am_S)} {s : am_S} (j : jz_J s) (hp : p + 5 ≤ L) (hL : L < 1000000) (hk : ∀ s', jz_J s' → ∃ s'', k18 (Int32.ofNat p + 5) s' = some (1, s'')) : ∃ s'', F_L_law_b244 L xs k18 (Int32.ofNat p) s = some (1, s'') := by
  have h1 : am_in (Int32.ofNat p + (1 : Int32)) L := by rw [ix_addL]; exact (ix_in (by omega)).mpr (by omega)
  have h2 : am_in (Int32.ofNat p + (2 : Int32)) L := by rw [ix_addL]; exact (ix_in (by omega)).mpr (by omega)
  have h3 : am_in (Int32.ofNat p + (3 : Int32)) L := by rw [ix_addL]; exact (ix_in (by omega)).mpr (by omega)
  have h4 : am_in (Int32.ofNat p + (4 : Int32)) L := by rw [ix_addL]; exact (ix_in (by omega)).mpr (by omega)
  have ag : jz_A (F_X11_voice_0 (xs ((Int32.ofNat p) + (1 : Int32)).toNatClampNeg) (xs ((Int32.ofNat p) + (2 : Int32)).toNatClampNeg) (xs ((Int32.ofNat p) + (3 : Int32)).toNatClampNeg) (xs ((Int32.ofNat p) + (4 : Int32)).toNatClampNeg)) (F_X12_voice_82 (xs ((Int32.ofNat p) + (1 : Int32)).toNatClampNeg) (xs ((Int32.ofNat p) + (2 : Int32)).toNatClampNeg) (xs ((Int32.ofNat p) + (3 : Int32)).toNatClampNeg) (xs ((Int32.ofNat p) + (4 : Int32)).toNatClampNeg)) := ag_voice
  obtain ⟨v, s1, s2, c1, c2, j2⟩ := ag s j
  obtain ⟨s'', e⟩ := hk s2 j2
  refine ⟨s'', ?_⟩
  rw [F_L_law_b244, if_pos h1, if_pos h2, if_pos h3, if_pos h4, c1, ix_b1, if_pos h1, if_pos h2, if_pos h3, if_pos h4, c2, ix_b1]
  dsimp only
  rw [if_pos rfl, F_L_law_b1631]
  exact e
theorem la_297 {L p : Nat} {xs : Nat → Int32} {k18 : Int32 → am_S → Option (Int32 × am_S)} {s : am_S} (j : jz_J s) (hp : p + 5 ≤ L) (hL : L < 1000000) (hk : ∀ s', jz_J s' → ∃ s'', k18 (Int32.ofNat p + 5) s' = some (1, s'')) : ∃ s'', F_L_law_b297 L xs k18 (Int32.ofNat p) s = some (1, s'') := by
  have h1 : am_in (Int32.ofNat p + (1 : Int32)) L := by rw [ix_addL]; exact (ix_in (by omega)).mpr (by omega)
  have h2 : am_in (Int32.ofNat p + (2 : Int32)) L := by rw [ix_addL]; exact (ix_in (by omega)).mpr (by omega)
  have h3 : am_in (Int32.ofNat p + (3 : Int32)) L := by rw [ix_addL]; exact (ix_in (by omega)).mpr (by omega)
  have h4 : am_in (Int32.ofNat p + (4 : Int32)) L := by rw [ix_addL]; exact (ix_in (by omega)).mpr (by omega)
  have ag : jz_A (F_X11_voiceOf_0 (xs ((Int32.ofNat p) + (1 : Int32)).toNatClampNeg) (xs ((Int32.ofNat p) + (2 : Int32)).toNatClampNeg)) (F_X12_voiceOf_82 (xs ((Int32.ofNat p) + (1 : Int32)).toNatClampNeg) (xs ((Int32.ofNat p) + (2 : Int32)).toNatClampNeg)) := ag_voiceOf
  obtain ⟨v, s1, s2, c1, c2, j2⟩ := ag s j
  obtain ⟨s'', e⟩ := hk s2 j2
  refine ⟨s'', ?_⟩
  rw [F_L_law_b297, if_pos h1, if_pos h2, c1, ix_b1, if_pos h1, if_pos h2, c2, ix_b1]
  dsimp only
  rw [if_pos rfl, F_L_law_b1631]
  exact e
theorem la_330 {L p : Nat} {xs : Nat → Int32} {k18 : Int32 → am_S → Option (Int32 × am_S)} {s : am_S} (j : jz_J s) (hp : p + 5 ≤ L) (hL : L < 1000000) (hk : ∀ s', jz_J s' → ∃ s'', k18 (Int32.ofNat p + 5) s' = some (1, s'')) : ∃ s'', F_L_law_b330 L xs k18 (Int32.ofNat p) s = some (1, s'') := by
  have h1 : am_in (Int32.ofNat p + (1 : Int32)) L := by rw [ix_addL]; exact (ix_in (by omega)).mpr (by omega)
  have h2 : am_in (Int32.ofNat p + (2 : Int32)) L := by rw [ix_addL]; exact (ix_in (by omega)).mpr (by omega)
  have h3 : am_in (Int32.ofNat p + (3 : Int32)) L := by rw [ix_addL]; exact (ix_in (by omega)).mpr (by omega)
  have h4 : am_in (Int32.ofNat p + (4 : Int32)) L := by rw [ix_addL]; exact (ix_in (by omega)).mpr (by omega)
  have ag : jz_A (F_X11_change_0 (xs ((Int32.ofNat p) + (1 : Int32)).toNatClampNeg) (xs ((Int32.ofNat p) + (2 : Int32)).toNatClampNeg) (xs ((Int32.ofNat p) + (3 : Int32)).toNatClampNeg)) (F_X12_change_82 (xs ((Int32.ofNat p) + (1 : Int32)).toNatClampNeg) (xs ((Int32.ofNat p) + (2 : Int32)).toNatClampNeg) (xs ((Int32.ofNat p) + (3 : Int32)).toNatClampNeg)) := ag_change
  obtain ⟨v, s1, s2, c1, c2, j2⟩ := ag s j
  obtain ⟨s'', e⟩ := hk s2 j2
  refine ⟨s'', ?_⟩
  rw [F_L_law_b330, if_pos h1, if_pos h2, if_pos h3, c1, ix_b1, if_pos h1, if_pos h2, if_pos h3, c2, ix_b1]
  dsimp only
  rw [if_pos rfl, F_L_law_b1631]
  exact e
theorem la_373 {L p : Nat} {xs : Nat → Int32} {k18 : Int32 → am_S → Option (Int32 × am_S)} {s : am_S} (j : jz_J s) (hp : p + 5 ≤ L) (hL : L < 1000000) (hk : ∀ s', jz_J s' → ∃ s'', k18 (Int32.ofNat p + 5) s' = some (1, s'')) : ∃ s'', F_L_law_b373 L xs k18 (Int32.ofNat p) s = some (1, s'') := by
  have h1 : am_in (Int32.ofNat p + (1 : Int32)) L := by rw [ix_addL]; exact (ix_in (by omega)).mpr (by omega)
  have h2 : am_in (Int32.ofNat p + (2 : Int32)) L := by rw [ix_addL]; exact (ix_in (by omega)).mpr (by omega)
  have h3 : am_in (Int32.ofNat p + (3 : Int32)) L := by rw [ix_addL]; exact (ix_in (by omega)).mpr (by omega)
  have h4 : am_in (Int32.ofNat p + (4 : Int32)) L := by rw [ix_addL]; exact (ix_in (by omega)).mpr (by omega)
  have ag : jz_A (F_X11_remake_0 (xs ((Int32.ofNat p) + (1 : Int32)).toNatClampNeg) (xs ((Int32.ofNat p) + (2 : Int32)).toNatClampNeg)) (F_X12_remake_82 (xs ((Int32.ofNat p) + (1 : Int32)).toNatClampNeg) (xs ((Int32.ofNat p) + (2 : Int32)).toNatClampNeg)) := ag_remake
  obtain ⟨v, s1, s2, c1, c2, j2⟩ := ag s j
  obtain ⟨s'', e⟩ := hk s2 j2
  refine ⟨s'', ?_⟩
  rw [F_L_law_b373, if_pos h1, if_pos h2, c1, ix_b1, if_pos h1, if_pos h2, c2, ix_b1]
  dsimp only
  rw [if_pos rfl, F_L_law_b1631]
  exact e
theorem la_406 {L p : Nat} {xs : Nat → Int32} {k18 : Int32 → am_S → Option (Int32 × am_S)} {s : am_S} (j : jz_J s) (hp : p + 5 ≤ L) (hL : L < 1000000) (hk : ∀ s', jz_J s' → ∃ s'', k18 (Int32.ofNat p + 5) s' = some (1, s'')) : ∃ s'', F_L_law_b406 L xs k18 (Int32.ofNat p) s = some (1, s'') := by
  have h1 : am_in (Int32.ofNat p + (1 : Int32)) L := by rw [ix_addL]; exact (ix_in (by omega)).mpr (by omega)
  have h2 : am_in (Int32.ofNat p + (2 : Int32)) L := by rw [ix_addL]; exact (ix_in (by omega)).mpr (by omega)
  have h3 : am_in (Int32.ofNat p + (3 : Int32)) L := by rw [ix_addL]; exact (ix_in (by omega)).mpr (by omega)
  have h4 : am_in (Int32.ofNat p + (4 : Int32)) L := by rw [ix_addL]; exact (ix_in (by omega)).mpr (by omega)
  have ag : jz_A (F_X11_tide_0 (xs ((Int32.ofNat p) + (1 : Int32)).toNatClampNeg) (xs ((Int32.ofNat p) + (2 : Int32)).toNatClampNeg)) (F_X12_tide_82 (xs ((Int32.ofNat p) + (1 : Int32)).toNatClampNeg) (xs ((Int32.ofNat p) + (2 : Int32)).toNatClampNeg)) := ag_tide
  obtain ⟨v, s1, s2, c1, c2, j2⟩ := ag s j
  obtain ⟨s'', e⟩ := hk s2 j2
  refine ⟨s'', ?_⟩
  rw [F_L_law_b406, if_pos h1, if_pos h2, c1, ix_b1, if_pos h1, if_pos h2, c2, ix_b1]
  dsimp only
  rw [if_pos rfl, F_L_law_b1631]
  exact e
theorem la_439 {L p : Nat} {xs : Nat → Int32} {k18 : Int32 → am_S → Option (Int32 × am_S)} {s : am_S} (j : jz_J s) (hp : p + 5 ≤ L) (hL : L < 1000000) (hk : ∀ s', jz_J s' → ∃ s'', k18 (Int32.ofNat p + 5) s' = some (1, s'')) : ∃ s'', F_L_law_b439 L xs k18 (Int32.ofNat p) s = some (1, s'') := by
  have h1 : am_in (Int32.ofNat p + (1 : Int32)) L := by rw [ix_addL]; exact (ix_in (by omega)).mpr (by omega)
  have h2 : am_in (Int32.ofNat p + (2 : Int32)) L := by rw [ix_addL]; exact (ix_in (by omega)).mpr (by omega)
  have h3 : am_in (Int32.ofNat p + (3 : Int32)) L := by rw [ix_addL]; exact (ix_in (by omega)).mpr (by omega)
  have h4 : am_in (Int32.ofNat p + (4 : Int32)) L := by rw [ix_addL]; exact (ix_in (by omega)).mpr (by omega)
  have ag : jz_A (F_X11_tideOf_0 (xs ((Int32.ofNat p) + (1 : Int32)).toNatClampNeg)) (F_X12_tideOf_82 (xs ((Int32.ofNat p) + (1 : Int32)).toNatClampNeg)) := ag_tideOf
  obtain ⟨v, s1, s2, c1, c2, j2⟩ := ag s j
  obtain ⟨s'', e⟩ := hk s2 j2
  refine ⟨s'', ?_⟩
  rw [F_L_law_b439, if_pos h1, c1, ix_b1, if_pos h1, c2, ix_b1]
  dsimp only
  rw [if_pos rfl, F_L_law_b1631]
  exact e
theorem la_462 {L p : Nat} {xs : Nat → Int32} {k18 : Int32 → am_S → Option (Int32 × am_S)} {s : am_S} (j : jz_J s) (hp : p + 5 ≤ L) (hL : L < 1000000) (hk : ∀ s', jz_J s' → ∃ s'', k18 (Int32.ofNat p + 5) s' = some (1, s'')) : ∃ s'', F_L_law_b462 L xs k18 (Int32.ofNat p) s = some (1, s'') := by
  have h1 : am_in (Int32.ofNat p + (1 : Int32)) L := by rw [ix_addL]; exact (ix_in (by omega)).mpr (by omega)
  have h2 : am_in (Int32.ofNat p + (2 : Int32)) L := by rw [ix_addL]; exact (ix_in (by omega)).mpr (by omega)
  have h3 : am_in (Int32.ofNat p + (3 : Int32)) L := by rw [ix_addL]; exact (ix_in (by omega)).mpr (by omega)
  have h4 : am_in (Int32.ofNat p + (4 : Int32)) L := by rw [ix_addL]; exact (ix_in (by omega)).mpr (by omega)
  have ag : jz_A (F_X11_set_0 (xs ((Int32.ofNat p) + (1 : Int32)).toNatClampNeg) (xs ((Int32.ofNat p) + (2 : Int32)).toNatClampNeg)) (F_X12_set_82 (xs ((Int32.ofNat p) + (1 : Int32)).toNatClampNeg) (xs ((Int32.ofNat p) + (2 : Int32)).toNatClampNeg)) := ag_set
  obtain ⟨v, s1, s2, c1, c2, j2⟩ := ag s j
  obtain ⟨s'', e⟩ := hk s2 j2
  refine ⟨s'', ?_⟩
  rw [F_L_law_b462, if_pos h1, if_pos h2, c1, ix_b1, if_pos h1, if_pos h2, c2, ix_b1]
  dsimp only
  rw [if_pos rfl, F_L_law_b1631]
  exact e
theorem la_495 {L p : Nat} {xs : Nat → Int32} {k18 : Int32 → am_S → Option (Int32 × am_S)} {s : am_S} (j : jz_J s) (hp : p + 5 ≤ L) (hL : L < 1000000) (hk : ∀ s', jz_J s' → ∃ s'', k18 (Int32.ofNat p + 5) s' = some (1, s'')) : ∃ s'', F_L_law_b495 L xs k18 (Int32.ofNat p) s = some (1, s'') := by
  have h1 : am_in (Int32.ofNat p + (1 : Int32)) L := by rw [ix_addL]; exact (ix_in (by omega)).mpr (by omega)
  have h2 : am_in (Int32.ofNat p + (2 : Int32)) L := by rw [ix_addL]; exact (ix_in (by omega)).mpr (by omega)
  have h3 : am_in (Int32.ofNat p + (3 : Int32)) L := by rw [ix_addL]; exact (ix_in (by omega)).mpr (by omega)
  have h4 : am_in (Int32.ofNat p + (4 : Int32)) L := by rw [ix_addL]; exact (ix_in (by omega)).mpr (by omega)
  have ag : jz_A (F_X11_anew_0) (F_X12_anew_82) := ag_anew
  obtain ⟨v, s1, s2, c1, c2, j2⟩ := ag s j
  obtain ⟨s'', e⟩ := hk s2 j2
  refine ⟨s'', ?_⟩
  rw [F_L_law_b495, c1, ix_b1, c2, ix_b1]
  dsimp only
  rw [if_pos rfl, F_L_law_b1631]
  exact e
theorem la_508 {L p : Nat} {xs : Nat → Int32} {k18 : Int32 → am_S → Option (Int32 × am_S)} {s : am_S} (j : jz_J s) (hp : p + 5 ≤ L) (hL : L < 1000000) (hk : ∀ s', jz_J s' → ∃ s'', k18 (Int32.ofNat p + 5) s' = some (1, s'')) : ∃ s'', F_L_law_b508 L xs k18 (Int32.ofNat p) s = some (1, s'') := by
  have h1 : am_in (Int32.ofNat p + (1 : Int32)) L := by rw [ix_addL]; exact (ix_in (by omega)).mpr (by omega)
  have h2 : am_in (Int32.ofNat p + (2 : Int32)) L := by rw [ix_addL]; exact (ix_in (by omega)).mpr (by omega)
  have h3 : am_in (Int32.ofNat p + (3 : Int32)) L := by rw [ix_addL]; exact (ix_in (by omega)).mpr (by omega)
  have h4 : am_in (Int32.ofNat p + (4 : Int32)) L := by rw [ix_addL]; exact (ix_in (by omega)).mpr (by omega)
  have ag : jz_A (F_X11_state_0 (xs ((Int32.ofNat p) + (1 : Int32)).toNatClampNeg)) (F_X12_state_82 (xs ((Int32.ofNat p) + (1 : Int32)).toNatClampNeg)) := ag_state
  obtain ⟨v, s1, s2, c1, c2, j2⟩ := ag s j
  obtain ⟨s'', e⟩ := hk s2 j2
  refine ⟨s'', ?_⟩
  rw [F_L_law_b508, if_pos h1, c1, ix_b1, if_pos h1, c2, ix_b1]
  dsimp only
  rw [if_pos rfl, F_L_law_b1631]
  exact e
theorem la_531 {L p : Nat} {xs : Nat → Int32} {k18 : Int32 → am_S → Option (Int32 × am_S)} {s : am_S} (j : jz_J s) (hp : p + 5 ≤ L) (hL : L < 1000000) (hk : ∀ s', jz_J s' → ∃ s'', k18 (Int32.ofNat p + 5) s' = some (1, s'')) : ∃ s'', F_L_law_b531 L xs k18 (Int32.ofNat p) s = some (1, s'') := by
  have h1 : am_in (Int32.ofNat p + (1 : Int32)) L := by rw [ix_addL]; exact (ix_in (by omega)).mpr (by omega)
  have h2 : am_in (Int32.ofNat p + (2 : Int32)) L := by rw [ix_addL]; exact (ix_in (by omega)).mpr (by omega)
  have h3 : am_in (Int32.ofNat p + (3 : Int32)) L := by rw [ix_addL]; exact (ix_in (by omega)).mpr (by omega)
  have h4 : am_in (Int32.ofNat p + (4 : Int32)) L := by rw [ix_addL]; exact (ix_in (by omega)).mpr (by omega)
  have ag : jz_A (F_X11_feed_0 (((xs ((Int32.ofNat p) + (1 : Int32)).toNatClampNeg).toInt64 <<< ((32 : Int32).toInt64 &&& 63)) ||| ((xs ((Int32.ofNat p) + (2 : Int32)).toNatClampNeg).toInt64 &&& (4294967295 : Int64))) (xs ((Int32.ofNat p) + (3 : Int32)).toNatClampNeg)) (F_X12_feed_82 (((xs ((Int32.ofNat p) + (1 : Int32)).toNatClampNeg).toInt64 <<< ((32 : Int32).toInt64 &&& 63)) ||| ((xs ((Int32.ofNat p) + (2 : Int32)).toNatClampNeg).toInt64 &&& (4294967295 : Int64))) (xs ((Int32.ofNat p) + (3 : Int32)).toNatClampNeg)) := ag_feed
  obtain ⟨v, s1, s2, c1, c2, j2⟩ := ag s j
  obtain ⟨s'', e⟩ := hk s2 j2
  refine ⟨s'', ?_⟩
  rw [F_L_law_b531, if_pos h1, if_pos h2, if_pos h3, c1, ix_b1, if_pos h1, if_pos h2, if_pos h3, c2, ix_b1]
  dsimp only
  rw [if_pos rfl, F_L_law_b1631]
  exact e
theorem la_594 {L p : Nat} {xs : Nat → Int32} {k18 : Int32 → am_S → Option (Int32 × am_S)} {s : am_S} (hrules : jz_A F_X11_rules_0 F_X12_rules_82) (j : jz_J s) (hp : p + 5 ≤ L) (hL : L < 1000000) (hk : ∀ s', jz_J s' → ∃ s'', k18 (Int32.ofNat p + 5) s' = some (1, s'')) : ∃ s'', F_L_law_b594 L xs k18 (Int32.ofNat p) s = some (1, s'') := by
  have h1 : am_in (Int32.ofNat p + (1 : Int32)) L := by rw [ix_addL]; exact (ix_in (by omega)).mpr (by omega)
  have h2 : am_in (Int32.ofNat p + (2 : Int32)) L := by rw [ix_addL]; exact (ix_in (by omega)).mpr (by omega)
  have h3 : am_in (Int32.ofNat p + (3 : Int32)) L := by rw [ix_addL]; exact (ix_in (by omega)).mpr (by omega)
  have h4 : am_in (Int32.ofNat p + (4 : Int32)) L := by rw [ix_addL]; exact (ix_in (by omega)).mpr (by omega)
  have ag : jz_A (F_X11_rules_0) (F_X12_rules_82) := hrules
  obtain ⟨v, s1, s2, c1, c2, j2⟩ := ag s j
  obtain ⟨s'', e⟩ := hk s2 j2
  refine ⟨s'', ?_⟩
  rw [F_L_law_b594, c1, ix_b1, c2, ix_b1]
  dsimp only
  rw [if_pos rfl, F_L_law_b1631]
  exact e
theorem la_607 {L p : Nat} {xs : Nat → Int32} {k18 : Int32 → am_S → Option (Int32 × am_S)} {s : am_S} (j : jz_J s) (hp : p + 5 ≤ L) (hL : L < 1000000) (hk : ∀ s', jz_J s' → ∃ s'', k18 (Int32.ofNat p + 5) s' = some (1, s'')) : ∃ s'', F_L_law_b607 L xs k18 (Int32.ofNat p) s = some (1, s'') := by
  have h1 : am_in (Int32.ofNat p + (1 : Int32)) L := by rw [ix_addL]; exact (ix_in (by omega)).mpr (by omega)
  have h2 : am_in (Int32.ofNat p + (2 : Int32)) L := by rw [ix_addL]; exact (ix_in (by omega)).mpr (by omega)
  have h3 : am_in (Int32.ofNat p + (3 : Int32)) L := by rw [ix_addL]; exact (ix_in (by omega)).mpr (by omega)
  have h4 : am_in (Int32.ofNat p + (4 : Int32)) L := by rw [ix_addL]; exact (ix_in (by omega)).mpr (by omega)
  have ag : jz_A (F_X11_turn_0) (F_X12_turn_82) := ag_turn
  obtain ⟨v, s1, s2, c1, c2, j2⟩ := ag s j
  obtain ⟨s'', e⟩ := hk s2 j2
  refine ⟨s'', ?_⟩
  rw [F_L_law_b607, c1, ix_b1, c2, ix_b1]
  dsimp only
  rw [if_pos rfl, F_L_law_b1631]
  exact e
theorem la_620 {L p : Nat} {xs : Nat → Int32} {k18 : Int32 → am_S → Option (Int32 × am_S)} {s : am_S} (j : jz_J s) (hp : p + 5 ≤ L) (hL : L < 1000000) (hk : ∀ s', jz_J s' → ∃ s'', k18 (Int32.ofNat p + 5) s' = some (1, s'')) : ∃ s'', F_L_law_b620 L xs k18 (Int32.ofNat p) s = some (1, s'') := by
  have h1 : am_in (Int32.ofNat p + (1 : Int32)) L := by rw [ix_addL]; exact (ix_in (by omega)).mpr (by omega)
  have h2 : am_in (Int32.ofNat p + (2 : Int32)) L := by rw [ix_addL]; exact (ix_in (by omega)).mpr (by omega)
  have h3 : am_in (Int32.ofNat p + (3 : Int32)) L := by rw [ix_addL]; exact (ix_in (by omega)).mpr (by omega)
  have h4 : am_in (Int32.ofNat p + (4 : Int32)) L := by rw [ix_addL]; exact (ix_in (by omega)).mpr (by omega)
  have ag : jz_A (F_X11_on_0 (xs ((Int32.ofNat p) + (1 : Int32)).toNatClampNeg)) (F_X12_on_82 (xs ((Int32.ofNat p) + (1 : Int32)).toNatClampNeg)) := ag_on
  obtain ⟨v, s1, s2, c1, c2, j2⟩ := ag s j
  obtain ⟨s'', e⟩ := hk s2 j2
  refine ⟨s'', ?_⟩
  rw [F_L_law_b620, if_pos h1, c1, ix_b1, if_pos h1, c2, ix_b1]
  dsimp only
  rw [if_pos rfl, F_L_law_b1631]
  exact e
theorem la_643 {L p : Nat} {xs : Nat → Int32} {k18 : Int32 → am_S → Option (Int32 × am_S)} {s : am_S} (j : jz_J s) (hp : p + 5 ≤ L) (hL : L < 1000000) (hk : ∀ s', jz_J s' → ∃ s'', k18 (Int32.ofNat p + 5) s' = some (1, s'')) : ∃ s'', F_L_law_b643 L xs k18 (Int32.ofNat p) s = some (1, s'') := by
  have h1 : am_in (Int32.ofNat p + (1 : Int32)) L := by rw [ix_addL]; exact (ix_in (by omega)).mpr (by omega)
  have h2 : am_in (Int32.ofNat p + (2 : Int32)) L := by rw [ix_addL]; exact (ix_in (by omega)).mpr (by omega)
  have h3 : am_in (Int32.ofNat p + (3 : Int32)) L := by rw [ix_addL]; exact (ix_in (by omega)).mpr (by omega)
  have h4 : am_in (Int32.ofNat p + (4 : Int32)) L := by rw [ix_addL]; exact (ix_in (by omega)).mpr (by omega)
  have ag : jz_A (F_X11_when_0 (xs ((Int32.ofNat p) + (1 : Int32)).toNatClampNeg)) (F_X12_when_82 (xs ((Int32.ofNat p) + (1 : Int32)).toNatClampNeg)) := ag_when
  obtain ⟨v, s1, s2, c1, c2, j2⟩ := ag s j
  obtain ⟨s'', e⟩ := hk s2 j2
  refine ⟨s'', ?_⟩
  rw [F_L_law_b643, if_pos h1, c1, ix_b1, if_pos h1, c2, ix_b1]
  dsimp only
  rw [if_pos rfl, F_L_law_b1631]
  exact e
theorem la_666 {L p : Nat} {xs : Nat → Int32} {k18 : Int32 → am_S → Option (Int32 × am_S)} {s : am_S} (j : jz_J s) (hp : p + 5 ≤ L) (hL : L < 1000000) (hk : ∀ s', jz_J s' → ∃ s'', k18 (Int32.ofNat p + 5) s' = some (1, s'')) : ∃ s'', F_L_law_b666 L xs k18 (Int32.ofNat p) s = some (1, s'') := by
  have h1 : am_in (Int32.ofNat p + (1 : Int32)) L := by rw [ix_addL]; exact (ix_in (by omega)).mpr (by omega)
  have h2 : am_in (Int32.ofNat p + (2 : Int32)) L := by rw [ix_addL]; exact (ix_in (by omega)).mpr (by omega)
  have h3 : am_in (Int32.ofNat p + (3 : Int32)) L := by rw [ix_addL]; exact (ix_in (by omega)).mpr (by omega)
  have h4 : am_in (Int32.ofNat p + (4 : Int32)) L := by rw [ix_addL]; exact (ix_in (by omega)).mpr (by omega)
  have ag : jz_A (F_X11_meshFor_0) (F_X12_meshFor_82) := ag_meshFor
  obtain ⟨v, s1, s2, c1, c2, j2⟩ := ag s j
  obtain ⟨s'', e⟩ := hk s2 j2
  refine ⟨s'', ?_⟩
  rw [F_L_law_b666, c1, ix_b1, c2, ix_b1]
  dsimp only
  rw [if_pos rfl, F_L_law_b1631]
  exact e
theorem la_679 {L p : Nat} {xs : Nat → Int32} {k18 : Int32 → am_S → Option (Int32 × am_S)} {s : am_S} (j : jz_J s) (hp : p + 5 ≤ L) (hL : L < 1000000) (hk : ∀ s', jz_J s' → ∃ s'', k18 (Int32.ofNat p + 5) s' = some (1, s'')) : ∃ s'', F_L_law_b679 L xs k18 (Int32.ofNat p) s = some (1, s'') := by
  have h1 : am_in (Int32.ofNat p + (1 : Int32)) L := by rw [ix_addL]; exact (ix_in (by omega)).mpr (by omega)
  have h2 : am_in (Int32.ofNat p + (2 : Int32)) L := by rw [ix_addL]; exact (ix_in (by omega)).mpr (by omega)
  have h3 : am_in (Int32.ofNat p + (3 : Int32)) L := by rw [ix_addL]; exact (ix_in (by omega)).mpr (by omega)
  have h4 : am_in (Int32.ofNat p + (4 : Int32)) L := by rw [ix_addL]; exact (ix_in (by omega)).mpr (by omega)
  have ag : jz_A (F_X11_placeFor_0 (xs ((Int32.ofNat p) + (1 : Int32)).toNatClampNeg)) (F_X12_placeFor_82 (xs ((Int32.ofNat p) + (1 : Int32)).toNatClampNeg)) := ag_placeFor
  obtain ⟨v, s1, s2, c1, c2, j2⟩ := ag s j
  obtain ⟨s'', e⟩ := hk s2 j2
  refine ⟨s'', ?_⟩
  rw [F_L_law_b679, if_pos h1, c1, ix_b1, if_pos h1, c2, ix_b1]
  dsimp only
  rw [if_pos rfl, F_L_law_b1631]
  exact e
theorem la_702 {L p : Nat} {xs : Nat → Int32} {k18 : Int32 → am_S → Option (Int32 × am_S)} {s : am_S} (j : jz_J s) (hp : p + 5 ≤ L) (hL : L < 1000000) (hk : ∀ s', jz_J s' → ∃ s'', k18 (Int32.ofNat p + 5) s' = some (1, s'')) : ∃ s'', F_L_law_b702 L xs k18 (Int32.ofNat p) s = some (1, s'') := by
  have h1 : am_in (Int32.ofNat p + (1 : Int32)) L := by rw [ix_addL]; exact (ix_in (by omega)).mpr (by omega)
  have h2 : am_in (Int32.ofNat p + (2 : Int32)) L := by rw [ix_addL]; exact (ix_in (by omega)).mpr (by omega)
  have h3 : am_in (Int32.ofNat p + (3 : Int32)) L := by rw [ix_addL]; exact (ix_in (by omega)).mpr (by omega)
  have h4 : am_in (Int32.ofNat p + (4 : Int32)) L := by rw [ix_addL]; exact (ix_in (by omega)).mpr (by omega)
  have ag : jz_A (F_X11_quarrels_0) (F_X12_quarrels_82) := ag_quarrels
  obtain ⟨v, s1, s2, c1, c2, j2⟩ := ag s j
  obtain ⟨s'', e⟩ := hk s2 j2
  refine ⟨s'', ?_⟩
  rw [F_L_law_b702, c1, ix_b1, c2, ix_b1]
  dsimp only
  rw [if_pos rfl, F_L_law_b1631]
  exact e
theorem la_715 {L p : Nat} {xs : Nat → Int32} {k18 : Int32 → am_S → Option (Int32 × am_S)} {s : am_S} (j : jz_J s) (hp : p + 5 ≤ L) (hL : L < 1000000) (hk : ∀ s', jz_J s' → ∃ s'', k18 (Int32.ofNat p + 5) s' = some (1, s'')) : ∃ s'', F_L_law_b715 L xs k18 (Int32.ofNat p) s = some (1, s'') := by
  have h1 : am_in (Int32.ofNat p + (1 : Int32)) L := by rw [ix_addL]; exact (ix_in (by omega)).mpr (by omega)
  have h2 : am_in (Int32.ofNat p + (2 : Int32)) L := by rw [ix_addL]; exact (ix_in (by omega)).mpr (by omega)
  have h3 : am_in (Int32.ofNat p + (3 : Int32)) L := by rw [ix_addL]; exact (ix_in (by omega)).mpr (by omega)
  have h4 : am_in (Int32.ofNat p + (4 : Int32)) L := by rw [ix_addL]; exact (ix_in (by omega)).mpr (by omega)
  have ag : jz_A (F_X11_apart_0 (xs ((Int32.ofNat p) + (1 : Int32)).toNatClampNeg)) (F_X12_apart_82 (xs ((Int32.ofNat p) + (1 : Int32)).toNatClampNeg)) := ag_apart
  obtain ⟨v, s1, s2, c1, c2, j2⟩ := ag s j
  obtain ⟨s'', e⟩ := hk s2 j2
  refine ⟨s'', ?_⟩
  rw [F_L_law_b715, if_pos h1, c1, ix_b1, if_pos h1, c2, ix_b1]
  dsimp only
  rw [if_pos rfl, F_L_law_b1631]
  exact e
theorem la_738 {L p : Nat} {xs : Nat → Int32} {k18 : Int32 → am_S → Option (Int32 × am_S)} {s : am_S} (j : jz_J s) (hp : p + 5 ≤ L) (hL : L < 1000000) (hk : ∀ s', jz_J s' → ∃ s'', k18 (Int32.ofNat p + 5) s' = some (1, s'')) : ∃ s'', F_L_law_b738 L xs k18 (Int32.ofNat p) s = some (1, s'') := by
  have h1 : am_in (Int32.ofNat p + (1 : Int32)) L := by rw [ix_addL]; exact (ix_in (by omega)).mpr (by omega)
  have h2 : am_in (Int32.ofNat p + (2 : Int32)) L := by rw [ix_addL]; exact (ix_in (by omega)).mpr (by omega)
  have h3 : am_in (Int32.ofNat p + (3 : Int32)) L := by rw [ix_addL]; exact (ix_in (by omega)).mpr (by omega)
  have h4 : am_in (Int32.ofNat p + (4 : Int32)) L := by rw [ix_addL]; exact (ix_in (by omega)).mpr (by omega)
  have ag : jz_A (F_X11_choir_0 (xs ((Int32.ofNat p) + (1 : Int32)).toNatClampNeg)) (F_X12_choir_82 (xs ((Int32.ofNat p) + (1 : Int32)).toNatClampNeg)) := ag_choir
  obtain ⟨v, s1, s2, c1, c2, j2⟩ := ag s j
  obtain ⟨s'', e⟩ := hk s2 j2
  refine ⟨s'', ?_⟩
  rw [F_L_law_b738, if_pos h1, c1, ix_b1, if_pos h1, c2, ix_b1]
  dsimp only
  rw [if_pos rfl, F_L_law_b1631]
  exact e
theorem la_761 {L p : Nat} {xs : Nat → Int32} {k18 : Int32 → am_S → Option (Int32 × am_S)} {s : am_S} (j : jz_J s) (hp : p + 5 ≤ L) (hL : L < 1000000) (hk : ∀ s', jz_J s' → ∃ s'', k18 (Int32.ofNat p + 5) s' = some (1, s'')) : ∃ s'', F_L_law_b761 L xs k18 (Int32.ofNat p) s = some (1, s'') := by
  have h1 : am_in (Int32.ofNat p + (1 : Int32)) L := by rw [ix_addL]; exact (ix_in (by omega)).mpr (by omega)
  have h2 : am_in (Int32.ofNat p + (2 : Int32)) L := by rw [ix_addL]; exact (ix_in (by omega)).mpr (by omega)
  have h3 : am_in (Int32.ofNat p + (3 : Int32)) L := by rw [ix_addL]; exact (ix_in (by omega)).mpr (by omega)
  have h4 : am_in (Int32.ofNat p + (4 : Int32)) L := by rw [ix_addL]; exact (ix_in (by omega)).mpr (by omega)
  have ag : jz_A (F_X11_best_0 (xs ((Int32.ofNat p) + (1 : Int32)).toNatClampNeg)) (F_X12_best_82 (xs ((Int32.ofNat p) + (1 : Int32)).toNatClampNeg)) := ag_best
  obtain ⟨v, s1, s2, c1, c2, j2⟩ := ag s j
  obtain ⟨s'', e⟩ := hk s2 j2
  refine ⟨s'', ?_⟩
  rw [F_L_law_b761, if_pos h1, c1, ix_b1, if_pos h1, c2, ix_b1]
  dsimp only
  rw [if_pos rfl, F_L_law_b1631]
  exact e
theorem la_784 {L p : Nat} {xs : Nat → Int32} {k18 : Int32 → am_S → Option (Int32 × am_S)} {s : am_S} (j : jz_J s) (hp : p + 5 ≤ L) (hL : L < 1000000) (hk : ∀ s', jz_J s' → ∃ s'', k18 (Int32.ofNat p + 5) s' = some (1, s'')) : ∃ s'', F_L_law_b784 L xs k18 (Int32.ofNat p) s = some (1, s'') := by
  have h1 : am_in (Int32.ofNat p + (1 : Int32)) L := by rw [ix_addL]; exact (ix_in (by omega)).mpr (by omega)
  have h2 : am_in (Int32.ofNat p + (2 : Int32)) L := by rw [ix_addL]; exact (ix_in (by omega)).mpr (by omega)
  have h3 : am_in (Int32.ofNat p + (3 : Int32)) L := by rw [ix_addL]; exact (ix_in (by omega)).mpr (by omega)
  have h4 : am_in (Int32.ofNat p + (4 : Int32)) L := by rw [ix_addL]; exact (ix_in (by omega)).mpr (by omega)
  have ag : jz_A (F_X11_ith_0 (xs ((Int32.ofNat p) + (1 : Int32)).toNatClampNeg) (xs ((Int32.ofNat p) + (2 : Int32)).toNatClampNeg)) (F_X12_ith_82 (xs ((Int32.ofNat p) + (1 : Int32)).toNatClampNeg) (xs ((Int32.ofNat p) + (2 : Int32)).toNatClampNeg)) := ag_ith
  obtain ⟨v, s1, s2, c1, c2, j2⟩ := ag s j
  obtain ⟨s'', e⟩ := hk s2 j2
  refine ⟨s'', ?_⟩
  rw [F_L_law_b784, if_pos h1, if_pos h2, c1, ix_b1, if_pos h1, if_pos h2, c2, ix_b1]
  dsimp only
  rw [if_pos rfl, F_L_law_b1631]
  exact e
theorem la_817 {L p : Nat} {xs : Nat → Int32} {k18 : Int32 → am_S → Option (Int32 × am_S)} {s : am_S} (j : jz_J s) (hp : p + 5 ≤ L) (hL : L < 1000000) (hk : ∀ s', jz_J s' → ∃ s'', k18 (Int32.ofNat p + 5) s' = some (1, s'')) : ∃ s'', F_L_law_b817 L xs k18 (Int32.ofNat p) s = some (1, s'') := by
  have h1 : am_in (Int32.ofNat p + (1 : Int32)) L := by rw [ix_addL]; exact (ix_in (by omega)).mpr (by omega)
  have h2 : am_in (Int32.ofNat p + (2 : Int32)) L := by rw [ix_addL]; exact (ix_in (by omega)).mpr (by omega)
  have h3 : am_in (Int32.ofNat p + (3 : Int32)) L := by rw [ix_addL]; exact (ix_in (by omega)).mpr (by omega)
  have h4 : am_in (Int32.ofNat p + (4 : Int32)) L := by rw [ix_addL]; exact (ix_in (by omega)).mpr (by omega)
  have ag : jz_A (F_X11_ways_0 (xs ((Int32.ofNat p) + (1 : Int32)).toNatClampNeg)) (F_X12_ways_82 (xs ((Int32.ofNat p) + (1 : Int32)).toNatClampNeg)) := ag_ways
  obtain ⟨v, s1, s2, c1, c2, j2⟩ := ag s j
  obtain ⟨s'', e⟩ := hk s2 j2
  refine ⟨s'', ?_⟩
  rw [F_L_law_b817, if_pos h1, c1, ix_b1, if_pos h1, c2, ix_b1]
  dsimp only
  rw [if_pos rfl, F_L_law_b1631]
  exact e
theorem la_840 {L p : Nat} {xs : Nat → Int32} {k18 : Int32 → am_S → Option (Int32 × am_S)} {s : am_S} (j : jz_J s) (hp : p + 5 ≤ L) (hL : L < 1000000) (hk : ∀ s', jz_J s' → ∃ s'', k18 (Int32.ofNat p + 5) s' = some (1, s'')) : ∃ s'', F_L_law_b840 L xs k18 (Int32.ofNat p) s = some (1, s'') := by
  have h1 : am_in (Int32.ofNat p + (1 : Int32)) L := by rw [ix_addL]; exact (ix_in (by omega)).mpr (by omega)
  have h2 : am_in (Int32.ofNat p + (2 : Int32)) L := by rw [ix_addL]; exact (ix_in (by omega)).mpr (by omega)
  have h3 : am_in (Int32.ofNat p + (3 : Int32)) L := by rw [ix_addL]; exact (ix_in (by omega)).mpr (by omega)
  have h4 : am_in (Int32.ofNat p + (4 : Int32)) L := by rw [ix_addL]; exact (ix_in (by omega)).mpr (by omega)
  have ag : jz_A (F_X11_haul_0 (xs ((Int32.ofNat p) + (1 : Int32)).toNatClampNeg) (xs ((Int32.ofNat p) + (2 : Int32)).toNatClampNeg)) (F_X12_haul_82 (xs ((Int32.ofNat p) + (1 : Int32)).toNatClampNeg) (xs ((Int32.ofNat p) + (2 : Int32)).toNatClampNeg)) := ag_haul
  obtain ⟨v, s1, s2, c1, c2, j2⟩ := ag s j
  obtain ⟨s'', e⟩ := hk s2 j2
  refine ⟨s'', ?_⟩
  rw [F_L_law_b840, if_pos h1, if_pos h2, c1, ix_b1, if_pos h1, if_pos h2, c2, ix_b1]
  dsimp only
  rw [if_pos rfl, F_L_law_b1631]
  exact e
theorem la_873 {L p : Nat} {xs : Nat → Int32} {k18 : Int32 → am_S → Option (Int32 × am_S)} {s : am_S} (j : jz_J s) (hp : p + 5 ≤ L) (hL : L < 1000000) (hk : ∀ s', jz_J s' → ∃ s'', k18 (Int32.ofNat p + 5) s' = some (1, s'')) : ∃ s'', F_L_law_b873 L xs k18 (Int32.ofNat p) s = some (1, s'') := by
  have h1 : am_in (Int32.ofNat p + (1 : Int32)) L := by rw [ix_addL]; exact (ix_in (by omega)).mpr (by omega)
  have h2 : am_in (Int32.ofNat p + (2 : Int32)) L := by rw [ix_addL]; exact (ix_in (by omega)).mpr (by omega)
  have h3 : am_in (Int32.ofNat p + (3 : Int32)) L := by rw [ix_addL]; exact (ix_in (by omega)).mpr (by omega)
  have h4 : am_in (Int32.ofNat p + (4 : Int32)) L := by rw [ix_addL]; exact (ix_in (by omega)).mpr (by omega)
  have ag : jz_A (F_X11_bars_0 (xs ((Int32.ofNat p) + (1 : Int32)).toNatClampNeg) (xs ((Int32.ofNat p) + (2 : Int32)).toNatClampNeg)) (F_X12_bars_82 (xs ((Int32.ofNat p) + (1 : Int32)).toNatClampNeg) (xs ((Int32.ofNat p) + (2 : Int32)).toNatClampNeg)) := ag_bars
  obtain ⟨v, s1, s2, c1, c2, j2⟩ := ag s j
  obtain ⟨s'', e⟩ := hk s2 j2
  refine ⟨s'', ?_⟩
  rw [F_L_law_b873, if_pos h1, if_pos h2, c1, ix_b1, if_pos h1, if_pos h2, c2, ix_b1]
  dsimp only
  rw [if_pos rfl, F_L_law_b1631]
  exact e
theorem la_906 {L p : Nat} {xs : Nat → Int32} {k18 : Int32 → am_S → Option (Int32 × am_S)} {s : am_S} (j : jz_J s) (hp : p + 5 ≤ L) (hL : L < 1000000) (hk : ∀ s', jz_J s' → ∃ s'', k18 (Int32.ofNat p + 5) s' = some (1, s'')) : ∃ s'', F_L_law_b906 L xs k18 (Int32.ofNat p) s = some (1, s'') := by
  have h1 : am_in (Int32.ofNat p + (1 : Int32)) L := by rw [ix_addL]; exact (ix_in (by omega)).mpr (by omega)
  have h2 : am_in (Int32.ofNat p + (2 : Int32)) L := by rw [ix_addL]; exact (ix_in (by omega)).mpr (by omega)
  have h3 : am_in (Int32.ofNat p + (3 : Int32)) L := by rw [ix_addL]; exact (ix_in (by omega)).mpr (by omega)
  have h4 : am_in (Int32.ofNat p + (4 : Int32)) L := by rw [ix_addL]; exact (ix_in (by omega)).mpr (by omega)
  have ag : jz_A (F_X11_game_0 (xs ((Int32.ofNat p) + (1 : Int32)).toNatClampNeg)) (F_X12_game_82 (xs ((Int32.ofNat p) + (1 : Int32)).toNatClampNeg)) := ag_game
  obtain ⟨v, s1, s2, c1, c2, j2⟩ := ag s j
  obtain ⟨s'', e⟩ := hk s2 j2
  refine ⟨s'', ?_⟩
  rw [F_L_law_b906, if_pos h1, c1, ix_b1, if_pos h1, c2, ix_b1]
  dsimp only
  rw [if_pos rfl, F_L_law_b1631]
  exact e
theorem la_929 {L p : Nat} {xs : Nat → Int32} {k18 : Int32 → am_S → Option (Int32 × am_S)} {s : am_S} (j : jz_J s) (hp : p + 5 ≤ L) (hL : L < 1000000) (hk : ∀ s', jz_J s' → ∃ s'', k18 (Int32.ofNat p + 5) s' = some (1, s'')) : ∃ s'', F_L_law_b929 L xs k18 (Int32.ofNat p) s = some (1, s'') := by
  have h1 : am_in (Int32.ofNat p + (1 : Int32)) L := by rw [ix_addL]; exact (ix_in (by omega)).mpr (by omega)
  have h2 : am_in (Int32.ofNat p + (2 : Int32)) L := by rw [ix_addL]; exact (ix_in (by omega)).mpr (by omega)
  have h3 : am_in (Int32.ofNat p + (3 : Int32)) L := by rw [ix_addL]; exact (ix_in (by omega)).mpr (by omega)
  have h4 : am_in (Int32.ofNat p + (4 : Int32)) L := by rw [ix_addL]; exact (ix_in (by omega)).mpr (by omega)
  have ag : jz_A (F_X11_play_0 (xs ((Int32.ofNat p) + (1 : Int32)).toNatClampNeg)) (F_X12_play_82 (xs ((Int32.ofNat p) + (1 : Int32)).toNatClampNeg)) := ag_play
  obtain ⟨v, s1, s2, c1, c2, j2⟩ := ag s j
  obtain ⟨s'', e⟩ := hk s2 j2
  refine ⟨s'', ?_⟩
  rw [F_L_law_b929, if_pos h1, c1, ix_b1, if_pos h1, c2, ix_b1]
  dsimp only
  rw [if_pos rfl, F_L_law_b1631]
  exact e
theorem la_952 {L p : Nat} {xs : Nat → Int32} {k18 : Int32 → am_S → Option (Int32 × am_S)} {s : am_S} (j : jz_J s) (hp : p + 5 ≤ L) (hL : L < 1000000) (hk : ∀ s', jz_J s' → ∃ s'', k18 (Int32.ofNat p + 5) s' = some (1, s'')) : ∃ s'', F_L_law_b952 L xs k18 (Int32.ofNat p) s = some (1, s'') := by
  have h1 : am_in (Int32.ofNat p + (1 : Int32)) L := by rw [ix_addL]; exact (ix_in (by omega)).mpr (by omega)
  have h2 : am_in (Int32.ofNat p + (2 : Int32)) L := by rw [ix_addL]; exact (ix_in (by omega)).mpr (by omega)
  have h3 : am_in (Int32.ofNat p + (3 : Int32)) L := by rw [ix_addL]; exact (ix_in (by omega)).mpr (by omega)
  have h4 : am_in (Int32.ofNat p + (4 : Int32)) L := by rw [ix_addL]; exact (ix_in (by omega)).mpr (by omega)
  have ag : jz_A (F_X11_report_0 (xs ((Int32.ofNat p) + (1 : Int32)).toNatClampNeg) (xs ((Int32.ofNat p) + (2 : Int32)).toNatClampNeg) (xs ((Int32.ofNat p) + (3 : Int32)).toNatClampNeg)) (F_X12_report_82 (xs ((Int32.ofNat p) + (1 : Int32)).toNatClampNeg) (xs ((Int32.ofNat p) + (2 : Int32)).toNatClampNeg) (xs ((Int32.ofNat p) + (3 : Int32)).toNatClampNeg)) := ag_report
  obtain ⟨v, s1, s2, c1, c2, j2⟩ := ag s j
  obtain ⟨s'', e⟩ := hk s2 j2
  refine ⟨s'', ?_⟩
  rw [F_L_law_b952, if_pos h1, if_pos h2, if_pos h3, c1, ix_b1, if_pos h1, if_pos h2, if_pos h3, c2, ix_b1]
  dsimp only
  rw [if_pos rfl, F_L_law_b1631]
  exact e
theorem la_995 {L p : Nat} {xs : Nat → Int32} {k18 : Int32 → am_S → Option (Int32 × am_S)} {s : am_S} (j : jz_J s) (hp : p + 5 ≤ L) (hL : L < 1000000) (hk : ∀ s', jz_J s' → ∃ s'', k18 (Int32.ofNat p + 5) s' = some (1, s'')) : ∃ s'', F_L_law_b995 L xs k18 (Int32.ofNat p) s = some (1, s'') := by
  have h1 : am_in (Int32.ofNat p + (1 : Int32)) L := by rw [ix_addL]; exact (ix_in (by omega)).mpr (by omega)
  have h2 : am_in (Int32.ofNat p + (2 : Int32)) L := by rw [ix_addL]; exact (ix_in (by omega)).mpr (by omega)
  have h3 : am_in (Int32.ofNat p + (3 : Int32)) L := by rw [ix_addL]; exact (ix_in (by omega)).mpr (by omega)
  have h4 : am_in (Int32.ofNat p + (4 : Int32)) L := by rw [ix_addL]; exact (ix_in (by omega)).mpr (by omega)
  have ag : jz_A (F_X11_forget_0) (F_X12_forget_82) := ag_forget
  obtain ⟨v, s1, s2, c1, c2, j2⟩ := ag s j
  obtain ⟨s'', e⟩ := hk s2 j2
  refine ⟨s'', ?_⟩
  rw [F_L_law_b995, c1, ix_b1, c2, ix_b1]
  dsimp only
  rw [if_pos rfl, F_L_law_b1631]
  exact e
theorem la_1008 {L p : Nat} {xs : Nat → Int32} {k18 : Int32 → am_S → Option (Int32 × am_S)} {s : am_S} (j : jz_J s) (hp : p + 5 ≤ L) (hL : L < 1000000) (hk : ∀ s', jz_J s' → ∃ s'', k18 (Int32.ofNat p + 5) s' = some (1, s'')) : ∃ s'', F_L_law_b1008 L xs k18 (Int32.ofNat p) s = some (1, s'') := by
  have h1 : am_in (Int32.ofNat p + (1 : Int32)) L := by rw [ix_addL]; exact (ix_in (by omega)).mpr (by omega)
  have h2 : am_in (Int32.ofNat p + (2 : Int32)) L := by rw [ix_addL]; exact (ix_in (by omega)).mpr (by omega)
  have h3 : am_in (Int32.ofNat p + (3 : Int32)) L := by rw [ix_addL]; exact (ix_in (by omega)).mpr (by omega)
  have h4 : am_in (Int32.ofNat p + (4 : Int32)) L := by rw [ix_addL]; exact (ix_in (by omega)).mpr (by omega)
  have ag : jz_A (F_X11_span_0 (xs ((Int32.ofNat p) + (1 : Int32)).toNatClampNeg)) (F_X12_span_82 (xs ((Int32.ofNat p) + (1 : Int32)).toNatClampNeg)) := ag_span
  obtain ⟨v, s1, s2, c1, c2, j2⟩ := ag s j
  obtain ⟨s'', e⟩ := hk s2 j2
  refine ⟨s'', ?_⟩
  rw [F_L_law_b1008, if_pos h1, c1, ix_b1, if_pos h1, c2, ix_b1]
  dsimp only
  rw [if_pos rfl, F_L_law_b1631]
  exact e
theorem la_1031 {L p : Nat} {xs : Nat → Int32} {k18 : Int32 → am_S → Option (Int32 × am_S)} {s : am_S} (j : jz_J s) (hp : p + 5 ≤ L) (hL : L < 1000000) (hk : ∀ s', jz_J s' → ∃ s'', k18 (Int32.ofNat p + 5) s' = some (1, s'')) : ∃ s'', F_L_law_b1031 L xs k18 (Int32.ofNat p) s = some (1, s'') := by
  have h1 : am_in (Int32.ofNat p + (1 : Int32)) L := by rw [ix_addL]; exact (ix_in (by omega)).mpr (by omega)
  have h2 : am_in (Int32.ofNat p + (2 : Int32)) L := by rw [ix_addL]; exact (ix_in (by omega)).mpr (by omega)
  have h3 : am_in (Int32.ofNat p + (3 : Int32)) L := by rw [ix_addL]; exact (ix_in (by omega)).mpr (by omega)
  have h4 : am_in (Int32.ofNat p + (4 : Int32)) L := by rw [ix_addL]; exact (ix_in (by omega)).mpr (by omega)
  have ag : jz_A (F_X11_liar_0) (F_X12_liar_82) := ag_liar
  obtain ⟨v, s1, s2, c1, c2, j2⟩ := ag s j
  obtain ⟨s'', e⟩ := hk s2 j2
  refine ⟨s'', ?_⟩
  rw [F_L_law_b1031, c1, ix_b1, c2, ix_b1]
  dsimp only
  rw [if_pos rfl, F_L_law_b1631]
  exact e
theorem la_1044 {L p : Nat} {xs : Nat → Int32} {k18 : Int32 → am_S → Option (Int32 × am_S)} {s : am_S} (j : jz_J s) (hp : p + 5 ≤ L) (hL : L < 1000000) (hk : ∀ s', jz_J s' → ∃ s'', k18 (Int32.ofNat p + 5) s' = some (1, s'')) : ∃ s'', F_L_law_b1044 L xs k18 (Int32.ofNat p) s = some (1, s'') := by
  have h1 : am_in (Int32.ofNat p + (1 : Int32)) L := by rw [ix_addL]; exact (ix_in (by omega)).mpr (by omega)
  have h2 : am_in (Int32.ofNat p + (2 : Int32)) L := by rw [ix_addL]; exact (ix_in (by omega)).mpr (by omega)
  have h3 : am_in (Int32.ofNat p + (3 : Int32)) L := by rw [ix_addL]; exact (ix_in (by omega)).mpr (by omega)
  have h4 : am_in (Int32.ofNat p + (4 : Int32)) L := by rw [ix_addL]; exact (ix_in (by omega)).mpr (by omega)
  have ag : jz_A (F_X11_seed_0 (xs ((Int32.ofNat p) + (1 : Int32)).toNatClampNeg)) (F_X12_seed_82 (xs ((Int32.ofNat p) + (1 : Int32)).toNatClampNeg)) := ag_seed
  obtain ⟨v, s1, s2, c1, c2, j2⟩ := ag s j
  obtain ⟨s'', e⟩ := hk s2 j2
  refine ⟨s'', ?_⟩
  rw [F_L_law_b1044, if_pos h1, c1, ix_b1, if_pos h1, c2, ix_b1]
  dsimp only
  rw [if_pos rfl, F_L_law_b1631]
  exact e
theorem la_1067 {L p : Nat} {xs : Nat → Int32} {k18 : Int32 → am_S → Option (Int32 × am_S)} {s : am_S} (j : jz_J s) (hp : p + 5 ≤ L) (hL : L < 1000000) (hk : ∀ s', jz_J s' → ∃ s'', k18 (Int32.ofNat p + 5) s' = some (1, s'')) : ∃ s'', F_L_law_b1067 L xs k18 (Int32.ofNat p) s = some (1, s'') := by
  have h1 : am_in (Int32.ofNat p + (1 : Int32)) L := by rw [ix_addL]; exact (ix_in (by omega)).mpr (by omega)
  have h2 : am_in (Int32.ofNat p + (2 : Int32)) L := by rw [ix_addL]; exact (ix_in (by omega)).mpr (by omega)
  have h3 : am_in (Int32.ofNat p + (3 : Int32)) L := by rw [ix_addL]; exact (ix_in (by omega)).mpr (by omega)
  have h4 : am_in (Int32.ofNat p + (4 : Int32)) L := by rw [ix_addL]; exact (ix_in (by omega)).mpr (by omega)
  have ag : jz_A (F_X11_lot_0) (F_X12_lot_82) := ag_lot
  obtain ⟨v, s1, s2, c1, c2, j2⟩ := ag s j
  obtain ⟨s'', e⟩ := hk s2 j2
  refine ⟨s'', ?_⟩
  rw [F_L_law_b1067, c1, ix_b1, c2, ix_b1]
  dsimp only
  rw [if_pos rfl, F_L_law_b1631]
  exact e
theorem la_1080 {L p : Nat} {xs : Nat → Int32} {k18 : Int32 → am_S → Option (Int32 × am_S)} {s : am_S} (j : jz_J s) (hp : p + 5 ≤ L) (hL : L < 1000000) (hk : ∀ s', jz_J s' → ∃ s'', k18 (Int32.ofNat p + 5) s' = some (1, s'')) : ∃ s'', F_L_law_b1080 L xs k18 (Int32.ofNat p) s = some (1, s'') := by
  have h1 : am_in (Int32.ofNat p + (1 : Int32)) L := by rw [ix_addL]; exact (ix_in (by omega)).mpr (by omega)
  have h2 : am_in (Int32.ofNat p + (2 : Int32)) L := by rw [ix_addL]; exact (ix_in (by omega)).mpr (by omega)
  have h3 : am_in (Int32.ofNat p + (3 : Int32)) L := by rw [ix_addL]; exact (ix_in (by omega)).mpr (by omega)
  have h4 : am_in (Int32.ofNat p + (4 : Int32)) L := by rw [ix_addL]; exact (ix_in (by omega)).mpr (by omega)
  have ag : jz_A (F_X11_times_0 (xs ((Int32.ofNat p) + (1 : Int32)).toNatClampNeg) (xs ((Int32.ofNat p) + (2 : Int32)).toNatClampNeg)) (F_X12_times_82 (xs ((Int32.ofNat p) + (1 : Int32)).toNatClampNeg) (xs ((Int32.ofNat p) + (2 : Int32)).toNatClampNeg)) := ag_times
  obtain ⟨v, s1, s2, c1, c2, j2⟩ := ag s j
  obtain ⟨s'', e⟩ := hk s2 j2
  refine ⟨s'', ?_⟩
  rw [F_L_law_b1080, if_pos h1, if_pos h2, c1, ix_b1, if_pos h1, if_pos h2, c2, ix_b1]
  dsimp only
  rw [if_pos rfl, F_L_law_b1631]
  exact e
theorem la_1113 {L p : Nat} {xs : Nat → Int32} {k18 : Int32 → am_S → Option (Int32 × am_S)} {s : am_S} (j : jz_J s) (hp : p + 5 ≤ L) (hL : L < 1000000) (hk : ∀ s', jz_J s' → ∃ s'', k18 (Int32.ofNat p + 5) s' = some (1, s'')) : ∃ s'', F_L_law_b1113 L xs k18 (Int32.ofNat p) s = some (1, s'') := by
  have h1 : am_in (Int32.ofNat p + (1 : Int32)) L := by rw [ix_addL]; exact (ix_in (by omega)).mpr (by omega)
  have h2 : am_in (Int32.ofNat p + (2 : Int32)) L := by rw [ix_addL]; exact (ix_in (by omega)).mpr (by omega)
  have h3 : am_in (Int32.ofNat p + (3 : Int32)) L := by rw [ix_addL]; exact (ix_in (by omega)).mpr (by omega)
  have h4 : am_in (Int32.ofNat p + (4 : Int32)) L := by rw [ix_addL]; exact (ix_in (by omega)).mpr (by omega)
  have ag : jz_A (F_X11_prove_0 (xs ((Int32.ofNat p) + (1 : Int32)).toNatClampNeg)) (F_X12_prove_82 (xs ((Int32.ofNat p) + (1 : Int32)).toNatClampNeg)) := ag_prove
  obtain ⟨v, s1, s2, c1, c2, j2⟩ := ag s j
  obtain ⟨s'', e⟩ := hk s2 j2
  refine ⟨s'', ?_⟩
  rw [F_L_law_b1113, if_pos h1, c1, ix_b1, if_pos h1, c2, ix_b1]
  dsimp only
  rw [if_pos rfl, F_L_law_b1631]
  exact e
theorem la_1136 {L p : Nat} {xs : Nat → Int32} {k18 : Int32 → am_S → Option (Int32 × am_S)} {s : am_S} (j : jz_J s) (hp : p + 5 ≤ L) (hL : L < 1000000) (hk : ∀ s', jz_J s' → ∃ s'', k18 (Int32.ofNat p + 5) s' = some (1, s'')) : ∃ s'', F_L_law_b1136 L xs k18 (Int32.ofNat p) s = some (1, s'') := by
  have h1 : am_in (Int32.ofNat p + (1 : Int32)) L := by rw [ix_addL]; exact (ix_in (by omega)).mpr (by omega)
  have h2 : am_in (Int32.ofNat p + (2 : Int32)) L := by rw [ix_addL]; exact (ix_in (by omega)).mpr (by omega)
  have h3 : am_in (Int32.ofNat p + (3 : Int32)) L := by rw [ix_addL]; exact (ix_in (by omega)).mpr (by omega)
  have h4 : am_in (Int32.ofNat p + (4 : Int32)) L := by rw [ix_addL]; exact (ix_in (by omega)).mpr (by omega)
  have ag : jz_A (F_X11_row_0 (xs ((Int32.ofNat p) + (1 : Int32)).toNatClampNeg) (xs ((Int32.ofNat p) + (2 : Int32)).toNatClampNeg)) (F_X12_row_82 (xs ((Int32.ofNat p) + (1 : Int32)).toNatClampNeg) (xs ((Int32.ofNat p) + (2 : Int32)).toNatClampNeg)) := ag_row
  obtain ⟨v, s1, s2, c1, c2, j2⟩ := ag s j
  obtain ⟨s'', e⟩ := hk s2 j2
  refine ⟨s'', ?_⟩
  rw [F_L_law_b1136, if_pos h1, if_pos h2, c1, ix_b1, if_pos h1, if_pos h2, c2, ix_b1]
  dsimp only
  rw [if_pos rfl, F_L_law_b1631]
  exact e
theorem la_1169 {L p : Nat} {xs : Nat → Int32} {k18 : Int32 → am_S → Option (Int32 × am_S)} {s : am_S} (j : jz_J s) (hp : p + 5 ≤ L) (hL : L < 1000000) (hk : ∀ s', jz_J s' → ∃ s'', k18 (Int32.ofNat p + 5) s' = some (1, s'')) : ∃ s'', F_L_law_b1169 L xs k18 (Int32.ofNat p) s = some (1, s'') := by
  have h1 : am_in (Int32.ofNat p + (1 : Int32)) L := by rw [ix_addL]; exact (ix_in (by omega)).mpr (by omega)
  have h2 : am_in (Int32.ofNat p + (2 : Int32)) L := by rw [ix_addL]; exact (ix_in (by omega)).mpr (by omega)
  have h3 : am_in (Int32.ofNat p + (3 : Int32)) L := by rw [ix_addL]; exact (ix_in (by omega)).mpr (by omega)
  have h4 : am_in (Int32.ofNat p + (4 : Int32)) L := by rw [ix_addL]; exact (ix_in (by omega)).mpr (by omega)
  have ag : jz_A (F_X11_alterRow_0 (xs ((Int32.ofNat p) + (1 : Int32)).toNatClampNeg) (xs ((Int32.ofNat p) + (2 : Int32)).toNatClampNeg) (xs ((Int32.ofNat p) + (3 : Int32)).toNatClampNeg)) (F_X12_alterRow_82 (xs ((Int32.ofNat p) + (1 : Int32)).toNatClampNeg) (xs ((Int32.ofNat p) + (2 : Int32)).toNatClampNeg) (xs ((Int32.ofNat p) + (3 : Int32)).toNatClampNeg)) := ag_alterRow
  obtain ⟨v, s1, s2, c1, c2, j2⟩ := ag s j
  obtain ⟨s'', e⟩ := hk s2 j2
  refine ⟨s'', ?_⟩
  rw [F_L_law_b1169, if_pos h1, if_pos h2, if_pos h3, c1, ix_b1, if_pos h1, if_pos h2, if_pos h3, c2, ix_b1]
  dsimp only
  rw [if_pos rfl, F_L_law_b1631]
  exact e
theorem la_1212 {L p : Nat} {xs : Nat → Int32} {k18 : Int32 → am_S → Option (Int32 × am_S)} {s : am_S} (j : jz_J s) (hp : p + 5 ≤ L) (hL : L < 1000000) (hk : ∀ s', jz_J s' → ∃ s'', k18 (Int32.ofNat p + 5) s' = some (1, s'')) : ∃ s'', F_L_law_b1212 L xs k18 (Int32.ofNat p) s = some (1, s'') := by
  have h1 : am_in (Int32.ofNat p + (1 : Int32)) L := by rw [ix_addL]; exact (ix_in (by omega)).mpr (by omega)
  have h2 : am_in (Int32.ofNat p + (2 : Int32)) L := by rw [ix_addL]; exact (ix_in (by omega)).mpr (by omega)
  have h3 : am_in (Int32.ofNat p + (3 : Int32)) L := by rw [ix_addL]; exact (ix_in (by omega)).mpr (by omega)
  have h4 : am_in (Int32.ofNat p + (4 : Int32)) L := by rw [ix_addL]; exact (ix_in (by omega)).mpr (by omega)
  have ag : jz_A (F_X11_judge_0) (F_X12_judge_82) := ag_judge
  obtain ⟨v, s1, s2, c1, c2, j2⟩ := ag s j
  obtain ⟨s'', e⟩ := hk s2 j2
  refine ⟨s'', ?_⟩
  rw [F_L_law_b1212, c1, ix_b1, c2, ix_b1]
  dsimp only
  rw [if_pos rfl, F_L_law_b1631]
  exact e
theorem la_1225 {L p : Nat} {xs : Nat → Int32} {k18 : Int32 → am_S → Option (Int32 × am_S)} {s : am_S} (j : jz_J s) (hp : p + 5 ≤ L) (hL : L < 1000000) (hk : ∀ s', jz_J s' → ∃ s'', k18 (Int32.ofNat p + 5) s' = some (1, s'')) : ∃ s'', F_L_law_b1225 L xs k18 (Int32.ofNat p) s = some (1, s'') := by
  have h1 : am_in (Int32.ofNat p + (1 : Int32)) L := by rw [ix_addL]; exact (ix_in (by omega)).mpr (by omega)
  have h2 : am_in (Int32.ofNat p + (2 : Int32)) L := by rw [ix_addL]; exact (ix_in (by omega)).mpr (by omega)
  have h3 : am_in (Int32.ofNat p + (3 : Int32)) L := by rw [ix_addL]; exact (ix_in (by omega)).mpr (by omega)
  have h4 : am_in (Int32.ofNat p + (4 : Int32)) L := by rw [ix_addL]; exact (ix_in (by omega)).mpr (by omega)
  have ag : jz_A (F_X11_sheet_0 (xs ((Int32.ofNat p) + (1 : Int32)).toNatClampNeg) (xs ((Int32.ofNat p) + (2 : Int32)).toNatClampNeg) (xs ((Int32.ofNat p) + (3 : Int32)).toNatClampNeg)) (F_X12_sheet_82 (xs ((Int32.ofNat p) + (1 : Int32)).toNatClampNeg) (xs ((Int32.ofNat p) + (2 : Int32)).toNatClampNeg) (xs ((Int32.ofNat p) + (3 : Int32)).toNatClampNeg)) := ag_sheet
  obtain ⟨v, s1, s2, c1, c2, j2⟩ := ag s j
  obtain ⟨s'', e⟩ := hk s2 j2
  refine ⟨s'', ?_⟩
  rw [F_L_law_b1225, if_pos h1, if_pos h2, if_pos h3, c1, ix_b1, if_pos h1, if_pos h2, if_pos h3, c2, ix_b1]
  dsimp only
  rw [if_pos rfl, F_L_law_b1631]
  exact e
theorem la_1268 {L p : Nat} {xs : Nat → Int32} {k18 : Int32 → am_S → Option (Int32 × am_S)} {s : am_S} (j : jz_J s) (hp : p + 5 ≤ L) (hL : L < 1000000) (hk : ∀ s', jz_J s' → ∃ s'', k18 (Int32.ofNat p + 5) s' = some (1, s'')) : ∃ s'', F_L_law_b1268 L xs k18 (Int32.ofNat p) s = some (1, s'') := by
  have h1 : am_in (Int32.ofNat p + (1 : Int32)) L := by rw [ix_addL]; exact (ix_in (by omega)).mpr (by omega)
  have h2 : am_in (Int32.ofNat p + (2 : Int32)) L := by rw [ix_addL]; exact (ix_in (by omega)).mpr (by omega)
  have h3 : am_in (Int32.ofNat p + (3 : Int32)) L := by rw [ix_addL]; exact (ix_in (by omega)).mpr (by omega)
  have h4 : am_in (Int32.ofNat p + (4 : Int32)) L := by rw [ix_addL]; exact (ix_in (by omega)).mpr (by omega)
  have ag : jz_A (F_X11_write_0 (xs ((Int32.ofNat p) + (1 : Int32)).toNatClampNeg) (xs ((Int32.ofNat p) + (2 : Int32)).toNatClampNeg) (xs ((Int32.ofNat p) + (3 : Int32)).toNatClampNeg)) (F_X12_write_82 (xs ((Int32.ofNat p) + (1 : Int32)).toNatClampNeg) (xs ((Int32.ofNat p) + (2 : Int32)).toNatClampNeg) (xs ((Int32.ofNat p) + (3 : Int32)).toNatClampNeg)) := ag_write
  obtain ⟨v, s1, s2, c1, c2, j2⟩ := ag s j
  obtain ⟨s'', e⟩ := hk s2 j2
  refine ⟨s'', ?_⟩
  rw [F_L_law_b1268, if_pos h1, if_pos h2, if_pos h3, c1, ix_b1, if_pos h1, if_pos h2, if_pos h3, c2, ix_b1]
  dsimp only
  rw [if_pos rfl, F_L_law_b1631]
  exact e
theorem la_1311 {L p : Nat} {xs : Nat → Int32} {k18 : Int32 → am_S → Option (Int32 × am_S)} {s : am_S} (j : jz_J s) (hp : p + 5 ≤ L) (hL : L < 1000000) (hk : ∀ s', jz_J s' → ∃ s'', k18 (Int32.ofNat p + 5) s' = some (1, s'')) : ∃ s'', F_L_law_b1311 L xs k18 (Int32.ofNat p) s = some (1, s'') := by
  have h1 : am_in (Int32.ofNat p + (1 : Int32)) L := by rw [ix_addL]; exact (ix_in (by omega)).mpr (by omega)
  have h2 : am_in (Int32.ofNat p + (2 : Int32)) L := by rw [ix_addL]; exact (ix_in (by omega)).mpr (by omega)
  have h3 : am_in (Int32.ofNat p + (3 : Int32)) L := by rw [ix_addL]; exact (ix_in (by omega)).mpr (by omega)
  have h4 : am_in (Int32.ofNat p + (4 : Int32)) L := by rw [ix_addL]; exact (ix_in (by omega)).mpr (by omega)
  have ag : jz_A (F_X11_item_0 (xs ((Int32.ofNat p) + (1 : Int32)).toNatClampNeg) (xs ((Int32.ofNat p) + (2 : Int32)).toNatClampNeg) (xs ((Int32.ofNat p) + (3 : Int32)).toNatClampNeg)) (F_X12_item_82 (xs ((Int32.ofNat p) + (1 : Int32)).toNatClampNeg) (xs ((Int32.ofNat p) + (2 : Int32)).toNatClampNeg) (xs ((Int32.ofNat p) + (3 : Int32)).toNatClampNeg)) := ag_item
  obtain ⟨v, s1, s2, c1, c2, j2⟩ := ag s j
  obtain ⟨s'', e⟩ := hk s2 j2
  refine ⟨s'', ?_⟩
  rw [F_L_law_b1311, if_pos h1, if_pos h2, if_pos h3, c1, ix_b1, if_pos h1, if_pos h2, if_pos h3, c2, ix_b1]
  dsimp only
  rw [if_pos rfl, F_L_law_b1631]
  exact e
theorem la_1354 {L p : Nat} {xs : Nat → Int32} {k18 : Int32 → am_S → Option (Int32 × am_S)} {s : am_S} (j : jz_J s) (hp : p + 5 ≤ L) (hL : L < 1000000) (hk : ∀ s', jz_J s' → ∃ s'', k18 (Int32.ofNat p + 5) s' = some (1, s'')) : ∃ s'', F_L_law_b1354 L xs k18 (Int32.ofNat p) s = some (1, s'') := by
  have h1 : am_in (Int32.ofNat p + (1 : Int32)) L := by rw [ix_addL]; exact (ix_in (by omega)).mpr (by omega)
  have h2 : am_in (Int32.ofNat p + (2 : Int32)) L := by rw [ix_addL]; exact (ix_in (by omega)).mpr (by omega)
  have h3 : am_in (Int32.ofNat p + (3 : Int32)) L := by rw [ix_addL]; exact (ix_in (by omega)).mpr (by omega)
  have h4 : am_in (Int32.ofNat p + (4 : Int32)) L := by rw [ix_addL]; exact (ix_in (by omega)).mpr (by omega)
  have ag : jz_A (F_X11_goAll_0 (xs ((Int32.ofNat p) + (1 : Int32)).toNatClampNeg) (xs ((Int32.ofNat p) + (2 : Int32)).toNatClampNeg) (xs ((Int32.ofNat p) + (3 : Int32)).toNatClampNeg)) (F_X12_goAll_82 (xs ((Int32.ofNat p) + (1 : Int32)).toNatClampNeg) (xs ((Int32.ofNat p) + (2 : Int32)).toNatClampNeg) (xs ((Int32.ofNat p) + (3 : Int32)).toNatClampNeg)) := ag_goAll
  obtain ⟨v, s1, s2, c1, c2, j2⟩ := ag s j
  obtain ⟨s'', e⟩ := hk s2 j2
  refine ⟨s'', ?_⟩
  rw [F_L_law_b1354, if_pos h1, if_pos h2, if_pos h3, c1, ix_b1, if_pos h1, if_pos h2, if_pos h3, c2, ix_b1]
  dsimp only
  rw [if_pos rfl, F_L_law_b1631]
  exact e
theorem la_1397 {L p : Nat} {xs : Nat → Int32} {k18 : Int32 → am_S → Option (Int32 × am_S)} {s : am_S} (j : jz_J s) (hp : p + 5 ≤ L) (hL : L < 1000000) (hk : ∀ s', jz_J s' → ∃ s'', k18 (Int32.ofNat p + 5) s' = some (1, s'')) : ∃ s'', F_L_law_b1397 L xs k18 (Int32.ofNat p) s = some (1, s'') := by
  have h1 : am_in (Int32.ofNat p + (1 : Int32)) L := by rw [ix_addL]; exact (ix_in (by omega)).mpr (by omega)
  have h2 : am_in (Int32.ofNat p + (2 : Int32)) L := by rw [ix_addL]; exact (ix_in (by omega)).mpr (by omega)
  have h3 : am_in (Int32.ofNat p + (3 : Int32)) L := by rw [ix_addL]; exact (ix_in (by omega)).mpr (by omega)
  have h4 : am_in (Int32.ofNat p + (4 : Int32)) L := by rw [ix_addL]; exact (ix_in (by omega)).mpr (by omega)
  have ag : jz_A (F_X11_wouldBe_0 (xs ((Int32.ofNat p) + (1 : Int32)).toNatClampNeg) (xs ((Int32.ofNat p) + (2 : Int32)).toNatClampNeg) (xs ((Int32.ofNat p) + (3 : Int32)).toNatClampNeg)) (F_X12_wouldBe_82 (xs ((Int32.ofNat p) + (1 : Int32)).toNatClampNeg) (xs ((Int32.ofNat p) + (2 : Int32)).toNatClampNeg) (xs ((Int32.ofNat p) + (3 : Int32)).toNatClampNeg)) := ag_wouldBe
  obtain ⟨v, s1, s2, c1, c2, j2⟩ := ag s j
  obtain ⟨s'', e⟩ := hk s2 j2
  refine ⟨s'', ?_⟩
  rw [F_L_law_b1397, if_pos h1, if_pos h2, if_pos h3, c1, ix_b1, if_pos h1, if_pos h2, if_pos h3, c2, ix_b1]
  dsimp only
  rw [if_pos rfl, F_L_law_b1631]
  exact e
theorem la_1440 {L p : Nat} {xs : Nat → Int32} {k18 : Int32 → am_S → Option (Int32 × am_S)} {s : am_S} (j : jz_J s) (hp : p + 5 ≤ L) (hL : L < 1000000) (hk : ∀ s', jz_J s' → ∃ s'', k18 (Int32.ofNat p + 5) s' = some (1, s'')) : ∃ s'', F_L_law_b1440 L xs k18 (Int32.ofNat p) s = some (1, s'') := by
  have h1 : am_in (Int32.ofNat p + (1 : Int32)) L := by rw [ix_addL]; exact (ix_in (by omega)).mpr (by omega)
  have h2 : am_in (Int32.ofNat p + (2 : Int32)) L := by rw [ix_addL]; exact (ix_in (by omega)).mpr (by omega)
  have h3 : am_in (Int32.ofNat p + (3 : Int32)) L := by rw [ix_addL]; exact (ix_in (by omega)).mpr (by omega)
  have h4 : am_in (Int32.ofNat p + (4 : Int32)) L := by rw [ix_addL]; exact (ix_in (by omega)).mpr (by omega)
  have ag : jz_A (F_X11_shelf_0 (xs ((Int32.ofNat p) + (1 : Int32)).toNatClampNeg) (xs ((Int32.ofNat p) + (2 : Int32)).toNatClampNeg) (xs ((Int32.ofNat p) + (3 : Int32)).toNatClampNeg)) (F_X12_shelf_82 (xs ((Int32.ofNat p) + (1 : Int32)).toNatClampNeg) (xs ((Int32.ofNat p) + (2 : Int32)).toNatClampNeg) (xs ((Int32.ofNat p) + (3 : Int32)).toNatClampNeg)) := ag_shelf
  obtain ⟨v, s1, s2, c1, c2, j2⟩ := ag s j
  obtain ⟨s'', e⟩ := hk s2 j2
  refine ⟨s'', ?_⟩
  rw [F_L_law_b1440, if_pos h1, if_pos h2, if_pos h3, c1, ix_b1, if_pos h1, if_pos h2, if_pos h3, c2, ix_b1]
  dsimp only
  rw [if_pos rfl, F_L_law_b1631]
  exact e
theorem la_1483 {L p : Nat} {xs : Nat → Int32} {k18 : Int32 → am_S → Option (Int32 × am_S)} {s : am_S} (j : jz_J s) (hp : p + 5 ≤ L) (hL : L < 1000000) (hk : ∀ s', jz_J s' → ∃ s'', k18 (Int32.ofNat p + 5) s' = some (1, s'')) : ∃ s'', F_L_law_b1483 L xs k18 (Int32.ofNat p) s = some (1, s'') := by
  have h1 : am_in (Int32.ofNat p + (1 : Int32)) L := by rw [ix_addL]; exact (ix_in (by omega)).mpr (by omega)
  have h2 : am_in (Int32.ofNat p + (2 : Int32)) L := by rw [ix_addL]; exact (ix_in (by omega)).mpr (by omega)
  have h3 : am_in (Int32.ofNat p + (3 : Int32)) L := by rw [ix_addL]; exact (ix_in (by omega)).mpr (by omega)
  have h4 : am_in (Int32.ofNat p + (4 : Int32)) L := by rw [ix_addL]; exact (ix_in (by omega)).mpr (by omega)
  have ag : jz_A (F_X11_taken_0 (xs ((Int32.ofNat p) + (1 : Int32)).toNatClampNeg) (xs ((Int32.ofNat p) + (2 : Int32)).toNatClampNeg)) (F_X12_taken_82 (xs ((Int32.ofNat p) + (1 : Int32)).toNatClampNeg) (xs ((Int32.ofNat p) + (2 : Int32)).toNatClampNeg)) := ag_taken
  obtain ⟨v, s1, s2, c1, c2, j2⟩ := ag s j
  obtain ⟨s'', e⟩ := hk s2 j2
  refine ⟨s'', ?_⟩
  rw [F_L_law_b1483, if_pos h1, if_pos h2, c1, ix_b1, if_pos h1, if_pos h2, c2, ix_b1]
  dsimp only
  rw [if_pos rfl, F_L_law_b1631]
  exact e
theorem la_1516 {L p : Nat} {xs : Nat → Int32} {k18 : Int32 → am_S → Option (Int32 × am_S)} {s : am_S} (j : jz_J s) (hp : p + 5 ≤ L) (hL : L < 1000000) (hk : ∀ s', jz_J s' → ∃ s'', k18 (Int32.ofNat p + 5) s' = some (1, s'')) : ∃ s'', F_L_law_b1516 L xs k18 (Int32.ofNat p) s = some (1, s'') := by
  have h1 : am_in (Int32.ofNat p + (1 : Int32)) L := by rw [ix_addL]; exact (ix_in (by omega)).mpr (by omega)
  have h2 : am_in (Int32.ofNat p + (2 : Int32)) L := by rw [ix_addL]; exact (ix_in (by omega)).mpr (by omega)
  have h3 : am_in (Int32.ofNat p + (3 : Int32)) L := by rw [ix_addL]; exact (ix_in (by omega)).mpr (by omega)
  have h4 : am_in (Int32.ofNat p + (4 : Int32)) L := by rw [ix_addL]; exact (ix_in (by omega)).mpr (by omega)
  have ag : jz_A (F_X11_act_0 (xs ((Int32.ofNat p) + (1 : Int32)).toNatClampNeg) (xs ((Int32.ofNat p) + (2 : Int32)).toNatClampNeg) (xs ((Int32.ofNat p) + (3 : Int32)).toNatClampNeg)) (F_X12_act_82 (xs ((Int32.ofNat p) + (1 : Int32)).toNatClampNeg) (xs ((Int32.ofNat p) + (2 : Int32)).toNatClampNeg) (xs ((Int32.ofNat p) + (3 : Int32)).toNatClampNeg)) := ag_act
  obtain ⟨v, s1, s2, c1, c2, j2⟩ := ag s j
  obtain ⟨s'', e⟩ := hk s2 j2
  refine ⟨s'', ?_⟩
  rw [F_L_law_b1516, if_pos h1, if_pos h2, if_pos h3, c1, ix_b1, if_pos h1, if_pos h2, if_pos h3, c2, ix_b1]
  dsimp only
  rw [if_pos rfl, F_L_law_b1631]
  exact e
theorem la_1559 {L p : Nat} {xs : Nat → Int32} {k18 : Int32 → am_S → Option (Int32 × am_S)} {s : am_S} (j : jz_J s) (hp : p + 5 ≤ L) (hL : L < 1000000) (hk : ∀ s', jz_J s' → ∃ s'', k18 (Int32.ofNat p + 5) s' = some (1, s'')) : ∃ s'', F_L_law_b1559 L xs k18 (Int32.ofNat p) s = some (1, s'') := by
  have h1 : am_in (Int32.ofNat p + (1 : Int32)) L := by rw [ix_addL]; exact (ix_in (by omega)).mpr (by omega)
  have h2 : am_in (Int32.ofNat p + (2 : Int32)) L := by rw [ix_addL]; exact (ix_in (by omega)).mpr (by omega)
  have h3 : am_in (Int32.ofNat p + (3 : Int32)) L := by rw [ix_addL]; exact (ix_in (by omega)).mpr (by omega)
  have h4 : am_in (Int32.ofNat p + (4 : Int32)) L := by rw [ix_addL]; exact (ix_in (by omega)).mpr (by omega)
  have ag : jz_A (F_X11_trace_0 (xs ((Int32.ofNat p) + (1 : Int32)).toNatClampNeg)) (F_X12_trace_82 (xs ((Int32.ofNat p) + (1 : Int32)).toNatClampNeg)) := ag_trace
  obtain ⟨v, s1, s2, c1, c2, j2⟩ := ag s j
  obtain ⟨s'', e⟩ := hk s2 j2
  refine ⟨s'', ?_⟩
  rw [F_L_law_b1559, if_pos h1, c1, ix_b1, if_pos h1, c2, ix_b1]
  dsimp only
  rw [if_pos rfl, F_L_law_b1631]
  exact e
theorem la_1582 {L p : Nat} {xs : Nat → Int32} {k18 : Int32 → am_S → Option (Int32 × am_S)} {s : am_S} (j : jz_J s) (hp : p + 5 ≤ L) (hL : L < 1000000) (hk : ∀ s', jz_J s' → ∃ s'', k18 (Int32.ofNat p + 5) s' = some (1, s'')) : ∃ s'', F_L_law_b1582 L xs k18 (Int32.ofNat p) s = some (1, s'') := by
  have h1 : am_in (Int32.ofNat p + (1 : Int32)) L := by rw [ix_addL]; exact (ix_in (by omega)).mpr (by omega)
  have h2 : am_in (Int32.ofNat p + (2 : Int32)) L := by rw [ix_addL]; exact (ix_in (by omega)).mpr (by omega)
  have h3 : am_in (Int32.ofNat p + (3 : Int32)) L := by rw [ix_addL]; exact (ix_in (by omega)).mpr (by omega)
  have h4 : am_in (Int32.ofNat p + (4 : Int32)) L := by rw [ix_addL]; exact (ix_in (by omega)).mpr (by omega)
  have ag : jz_A (F_X11_many_0 (xs ((Int32.ofNat p) + (1 : Int32)).toNatClampNeg)) (F_X12_many_82 (xs ((Int32.ofNat p) + (1 : Int32)).toNatClampNeg)) := ag_many
  obtain ⟨v, s1, s2, c1, c2, j2⟩ := ag s j
  obtain ⟨s'', e⟩ := hk s2 j2
  refine ⟨s'', ?_⟩
  rw [F_L_law_b1582, if_pos h1, c1, ix_b1, if_pos h1, c2, ix_b1]
  dsimp only
  rw [if_pos rfl, F_L_law_b1631]
  exact e
theorem la_1605 {L p : Nat} {xs : Nat → Int32} {k18 : Int32 → am_S → Option (Int32 × am_S)} {s : am_S} (j : jz_J s) (hp : p + 5 ≤ L) (hL : L < 1000000) (hk : ∀ s', jz_J s' → ∃ s'', k18 (Int32.ofNat p + 5) s' = some (1, s'')) : ∃ s'', F_L_law_b1605 L xs k18 (Int32.ofNat p) s = some (1, s'') := by
  have h1 : am_in (Int32.ofNat p + (1 : Int32)) L := by rw [ix_addL]; exact (ix_in (by omega)).mpr (by omega)
  have h2 : am_in (Int32.ofNat p + (2 : Int32)) L := by rw [ix_addL]; exact (ix_in (by omega)).mpr (by omega)
  have h3 : am_in (Int32.ofNat p + (3 : Int32)) L := by rw [ix_addL]; exact (ix_in (by omega)).mpr (by omega)
  have h4 : am_in (Int32.ofNat p + (4 : Int32)) L := by rw [ix_addL]; exact (ix_in (by omega)).mpr (by omega)
  have ag : jz_A (F_X11_keep_0) (F_X12_keep_82) := ag_keep
  obtain ⟨v, s1, s2, c1, c2, j2⟩ := ag s j
  obtain ⟨s'', e⟩ := hk s2 j2
  refine ⟨s'', ?_⟩
  rw [F_L_law_b1605, c1, ix_b1, c2, ix_b1]
  dsimp only
  rw [if_pos rfl, F_L_law_b1631]
  exact e
theorem la_1618 {L p : Nat} {xs : Nat → Int32} {k18 : Int32 → am_S → Option (Int32 × am_S)} {s : am_S} (j : jz_J s) (hp : p + 5 ≤ L) (hL : L < 1000000) (hk : ∀ s', jz_J s' → ∃ s'', k18 (Int32.ofNat p + 5) s' = some (1, s'')) : ∃ s'', F_L_law_b1618 L xs k18 (Int32.ofNat p) s = some (1, s'') := by
  have h1 : am_in (Int32.ofNat p + (1 : Int32)) L := by rw [ix_addL]; exact (ix_in (by omega)).mpr (by omega)
  have h2 : am_in (Int32.ofNat p + (2 : Int32)) L := by rw [ix_addL]; exact (ix_in (by omega)).mpr (by omega)
  have h3 : am_in (Int32.ofNat p + (3 : Int32)) L := by rw [ix_addL]; exact (ix_in (by omega)).mpr (by omega)
  have h4 : am_in (Int32.ofNat p + (4 : Int32)) L := by rw [ix_addL]; exact (ix_in (by omega)).mpr (by omega)
  have ag : jz_A (F_X11_again_0) (F_X12_again_82) := ag_again
  obtain ⟨v, s1, s2, c1, c2, j2⟩ := ag s j
  obtain ⟨s'', e⟩ := hk s2 j2
  refine ⟨s'', ?_⟩
  rw [F_L_law_b1618, c1, ix_b1, c2, ix_b1]
  dsimp only
  rw [if_pos rfl, F_L_law_b1631]
  exact e
theorem la_loop {L : Nat} {xs : Nat → Int32} (hrules : jz_A F_X11_rules_0 F_X12_rules_82) (hL : L < 1000000) : ∀ (n p : Nat) (s : am_S), jz_J s → p ≤ L → L < p + 5 * n → ∃ s'', F_L_law_b18 L xs n (Int32.ofNat p) s = some (1, s'') := by
  intro n
  induction n with
  | zero => intro p s j h1 h2; omega
  | succ n ih =>
    intro p s j h1 h2
    rw [F_L_law_b18]
    have hlt : (Int32.ofNat L - (5 : Int32)) < Int32.ofNat p ↔ L < p + 5 := by
      rw [ix_lt', Int32.toInt_sub, ix_int (by omega), ix_int (by omega)]
      have h5 : (5 : Int32).toInt = 5 := rfl
      rw [h5, Int.bmod_eq_of_le (by omega) (by omega)]
      omega
    by_cases hp : L < p + 5
    · rw [if_pos (hlt.mpr hp)]; exact ⟨s, rfl⟩
    · have h0 : am_in (Int32.ofNat p) L := (ix_in (by omega)).mpr (by omega)
      have hk : ∀ s', jz_J s' → ∃ s'', F_L_law_b18 L xs n (Int32.ofNat p + 5) s' = some (1, s'') := fun s' j' => by
        rw [ix_addL]; exact ih (p + 5) s' j' (by omega) (by omega)
      rw [if_neg (fun z => hp (hlt.mp z)), if_pos h0]
      by_cases q0 : (xs (Int32.ofNat p).toNatClampNeg &&& (63 : Int32)) = (0 : Int32)
      · rw [if_pos q0]; exact la_244 j (by omega) hL hk
      rw [if_neg q0]
      by_cases q1 : (xs (Int32.ofNat p).toNatClampNeg &&& (63 : Int32)) = (1 : Int32)
      · rw [if_pos q1]; exact la_297 j (by omega) hL hk
      rw [if_neg q1]
      by_cases q2 : (xs (Int32.ofNat p).toNatClampNeg &&& (63 : Int32)) = (2 : Int32)
      · rw [if_pos q2]; exact la_330 j (by omega) hL hk
      rw [if_neg q2]
      by_cases q3 : (xs (Int32.ofNat p).toNatClampNeg &&& (63 : Int32)) = (3 : Int32)
      · rw [if_pos q3]; exact la_373 j (by omega) hL hk
      rw [if_neg q3]
      by_cases q4 : (xs (Int32.ofNat p).toNatClampNeg &&& (63 : Int32)) = (4 : Int32)
      · rw [if_pos q4]; exact la_406 j (by omega) hL hk
      rw [if_neg q4]
      by_cases q5 : (xs (Int32.ofNat p).toNatClampNeg &&& (63 : Int32)) = (5 : Int32)
      · rw [if_pos q5]; exact la_439 j (by omega) hL hk
      rw [if_neg q5]
      by_cases q6 : (xs (Int32.ofNat p).toNatClampNeg &&& (63 : Int32)) = (6 : Int32)
      · rw [if_pos q6]; exact la_462 j (by omega) hL hk
      rw [if_neg q6]
      by_cases q7 : (xs (Int32.ofNat p).toNatClampNeg &&& (63 : Int32)) = (7 : Int32)
      · rw [if_pos q7]; exact la_495 j (by omega) hL hk
      rw [if_neg q7]
      by_cases q8 : (xs (Int32.ofNat p).toNatClampNeg &&& (63 : Int32)) = (8 : Int32)
      · rw [if_pos q8]; exact la_508 j (by omega) hL hk
      rw [if_neg q8]
      by_cases q9 : (xs (Int32.ofNat p).toNatClampNeg &&& (63 : Int32)) = (9 : Int32)
      · rw [if_pos q9]; exact la_531 j (by omega) hL hk
      rw [if_neg q9]
      by_cases q10 : (xs (Int32.ofNat p).toNatClampNeg &&& (63 : Int32)) = (10 : Int32)
      · rw [if_pos q10]; exact la_594 hrules j (by omega) hL hk
      rw [if_neg q10]
      by_cases q11 : (xs (Int32.ofNat p).toNatClampNeg &&& (63 : Int32)) = (11 : Int32)
      · rw [if_pos q11]; exact la_607 j (by omega) hL hk
      rw [if_neg q11]
      by_cases q12 : (xs (Int32.ofNat p).toNatClampNeg &&& (63 : Int32)) = (12 : Int32)
      · rw [if_pos q12]; exact la_620 j (by omega) hL hk
      rw [if_neg q12]
      by_cases q13 : (xs (Int32.ofNat p).toNatClampNeg &&& (63 : Int32)) = (13 : Int32)
      · rw [if_pos q13]; exact la_643 j (by omega) hL hk
      rw [if_neg q13]
      by_cases q14 : (xs (Int32.ofNat p).toNatClampNeg &&& (63 : Int32)) = (14 : Int32)
      · rw [if_pos q14]; exact la_666 j (by omega) hL hk
      rw [if_neg q14]
      by_cases q15 : (xs (Int32.ofNat p).toNatClampNeg &&& (63 : Int32)) = (15 : Int32)
      · rw [if_pos q15]; exact la_679 j (by omega) hL hk
      rw [if_neg q15]
      by_cases q16 : (xs (Int32.ofNat p).toNatClampNeg &&& (63 : Int32)) = (16 : Int32)
      · rw [if_pos q16]; exact la_702 j (by omega) hL hk
      rw [if_neg q16]
      by_cases q17 : (xs (Int32.ofNat p).toNatClampNeg &&& (63 : Int32)) = (17 : Int32)
      · rw [if_pos q17]; exact la_715 j (by omega) hL hk
      rw [if_neg q17]
      by_cases q18 : (xs (Int32.ofNat p).toNatClampNeg &&& (63 : Int32)) = (18 : Int32)
      · rw [if_pos q18]; exact la_738 j (by omega) hL hk
      rw [if_neg q18]
      by_cases q19 : (xs (Int32.ofNat p).toNatClampNeg &&& (63 : Int32)) = (19 : Int32)
      · rw [if_pos q19]; exact la_761 j (by omega) hL hk
      rw [if_neg q19]
      by_cases q20 : (xs (Int32.ofNat p).toNatClampNeg &&& (63 : Int32)) = (20 : Int32)
      · rw [if_pos q20]; exact la_784 j (by omega) hL hk
      rw [if_neg q20]
      by_cases q21 : (xs (Int32.ofNat p).toNatClampNeg &&& (63 : Int32)) = (21 : Int32)
      · rw [if_pos q21]; exact la_817 j (by omega) hL hk
      rw [if_neg q21]
      by_cases q22 : (xs (Int32.ofNat p).toNatClampNeg &&& (63 : Int32)) = (22 : Int32)
      · rw [if_pos q22]; exact la_840 j (by omega) hL hk
      rw [if_neg q22]
      by_cases q23 : (xs (Int32.ofNat p).toNatClampNeg &&& (63 : Int32)) = (23 : Int32)
      · rw [if_pos q23]; exact la_873 j (by omega) hL hk
      rw [if_neg q23]
      by_cases q24 : (xs (Int32.ofNat p).toNatClampNeg &&& (63 : Int32)) = (24 : Int32)
      · rw [if_pos q24]; exact la_906 j (by omega) hL hk
      rw [if_neg q24]
      by_cases q25 : (xs (Int32.ofNat p).toNatClampNeg &&& (63 : Int32)) = (25 : Int32)
      · rw [if_pos q25]; exact la_929 j (by omega) hL hk
      rw [if_neg q25]
      by_cases q26 : (xs (Int32.ofNat p).toNatClampNeg &&& (63 : Int32)) = (26 : Int32)
      · rw [if_pos q26]; exact la_952 j (by omega) hL hk
      rw [if_neg q26]
      by_cases q27 : (xs (Int32.ofNat p).toNatClampNeg &&& (63 : Int32)) = (27 : Int32)
      · rw [if_pos q27]; exact la_995 j (by omega) hL hk
      rw [if_neg q27]
      by_cases q28 : (xs (Int32.ofNat p).toNatClampNeg &&& (63 : Int32)) = (28 : Int32)
      · rw [if_pos q28]; exact la_1008 j (by omega) hL hk
      rw [if_neg q28]
      by_cases q29 : (xs (Int32.ofNat p).toNatClampNeg &&& (63 : Int32)) = (29 : Int32)
      · rw [if_pos q29]; exact la_1031 j (by omega) hL hk
      rw [if_neg q29]
      by_cases q30 : (xs (Int32.ofNat p).toNatClampNeg &&& (63 : Int32)) = (30 : Int32)
      · rw [if_pos q30]; exact la_1044 j (by omega) hL hk
      rw [if_neg q30]
      by_cases q31 : (xs (Int32.ofNat p).toNatClampNeg &&& (63 : Int32)) = (31 : Int32)
      · rw [if_pos q31]; exact la_1067 j (by omega) hL hk
      rw [if_neg q31]
      by_cases q32 : (xs (Int32.ofNat p).toNatClampNeg &&& (63 : Int32)) = (32 : Int32)
      · rw [if_pos q32]; exact la_1080 j (by omega) hL hk
      rw [if_neg q32]
      by_cases q33 : (xs (Int32.ofNat p).toNatClampNeg &&& (63 : Int32)) = (33 : Int32)
      · rw [if_pos q33]; exact la_1113 j (by omega) hL hk
      rw [if_neg q33]
      by_cases q34 : (xs (Int32.ofNat p).toNatClampNeg &&& (63 : Int32)) = (34 : Int32)
      · rw [if_pos q34]; exact la_1136 j (by omega) hL hk
      rw [if_neg q34]
      by_cases q35 : (xs (Int32.ofNat p).toNatClampNeg &&& (63 : Int32)) = (35 : Int32)
      · rw [if_pos q35]; exact la_1169 j (by omega) hL hk
      rw [if_neg q35]
      by_cases q36 : (xs (Int32.ofNat p).toNatClampNeg &&& (63 : Int32)) = (36 : Int32)
      · rw [if_pos q36]; exact la_1212 j (by omega) hL hk
      rw [if_neg q36]
      by_cases q37 : (xs (Int32.ofNat p).toNatClampNeg &&& (63 : Int32)) = (37 : Int32)
      · rw [if_pos q37]; exact la_1225 j (by omega) hL hk
      rw [if_neg q37]
      by_cases q38 : (xs (Int32.ofNat p).toNatClampNeg &&& (63 : Int32)) = (38 : Int32)
      · rw [if_pos q38]; exact la_1268 j (by omega) hL hk
      rw [if_neg q38]
      by_cases q39 : (xs (Int32.ofNat p).toNatClampNeg &&& (63 : Int32)) = (39 : Int32)
      · rw [if_pos q39]; exact la_1311 j (by omega) hL hk
      rw [if_neg q39]
      by_cases q40 : (xs (Int32.ofNat p).toNatClampNeg &&& (63 : Int32)) = (40 : Int32)
      · rw [if_pos q40]; exact la_1354 j (by omega) hL hk
      rw [if_neg q40]
      by_cases q41 : (xs (Int32.ofNat p).toNatClampNeg &&& (63 : Int32)) = (41 : Int32)
      · rw [if_pos q41]; exact la_1397 j (by omega) hL hk
      rw [if_neg q41]
      by_cases q42 : (xs (Int32.ofNat p).toNatClampNeg &&& (63 : Int32)) = (42 : Int32)
      · rw [if_pos q42]; exact la_1440 j (by omega) hL hk
      rw [if_neg q42]
      by_cases q43 : (xs (Int32.ofNat p).toNatClampNeg &&& (63 : Int32)) = (43 : Int32)
      · rw [if_pos q43]; exact la_1483 j (by omega) hL hk
      rw [if_neg q43]
      by_cases q44 : (xs (Int32.ofNat p).toNatClampNeg &&& (63 : Int32)) = (44 : Int32)
      · rw [if_pos q44]; exact la_1516 j (by omega) hL hk
      rw [if_neg q44]
      by_cases q45 : (xs (Int32.ofNat p).toNatClampNeg &&& (63 : Int32)) = (45 : Int32)
      · rw [if_pos q45]; exact la_1559 j (by omega) hL hk
      rw [if_neg q45]
      by_cases q46 : (xs (Int32.ofNat p).toNatClampNeg &&& (63 : Int32)) = (46 : Int32)
      · rw [if_pos q46]; exact la_1582 j (by omega) hL hk
      rw [if_neg q46]
      by_cases q47 : (xs (Int32.ofNat p).toNatClampNeg &&& (63 : Int32)) = (47 : Int32)
      · rw [if_pos q47]; exact la_1605 j (by omega) hL hk
      rw [if_neg q47]
      by_cases q48 : (xs (Int32.ofNat p).toNatClampNeg &&& (63 : Int32)) = (48 : Int32)
      · rw [if_pos q48]; exact la_1618 j (by omega) hL hk
      rw [if_neg q48]
      rw [F_L_law_b1631]
      exact hk s j
