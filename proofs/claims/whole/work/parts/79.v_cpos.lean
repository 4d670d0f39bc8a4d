/-! LAYER 2: the class's reader at a token (written by hand) -/
/-- the class stands at token i of c + 1 -/
def sq_CP (T : Nat → Int32) (n c i : Nat) (s : am_S) : Prop := sq_CK T n (c + 1) s ∧ c ≤ n ∧ n ≤ 200 ∧ (∀ k, k < c → sq_tp T n k < n) ∧ sq_tp T n c = n ∧ i ≤ c ∧ s.1 40 5 = Int32.ofNat i
def sq_cc (T : Nat → Int32) (n p : Nat) : Int32 := if p < n then sq_cd T n p else 10054
theorem cz_cur {T : Nat → Int32} {n c i : Nat} {s : am_S} (h : sq_CP T n c i s) : F_X6_current_40 s = some (sq_cc T n (sq_tp T n i), s) := by
  obtain ⟨h1, h2, h3, h4, h5, h6, h7⟩ := h
  exact cz_current h1 (by omega) h6 h7
theorem sq_CP_5 {T : Nat → Int32} {n c i : Nat} {s : am_S} (h : sq_CP T n c i s) (hi : sq_tp T n i < n) : sq_CP T n c (i + 1) (am_sI s 40 5 (Int32.ofNat (i + 1))) := by
  obtain ⟨⟨a0, a1, a2, a3⟩, h2, h3, h4, h5, h6, h7⟩ := h
  refine ⟨⟨by rw [ix_sIj (by decide)]; exact a0, by rw [ix_sIn (by decide)]; exact a1, by rw [ix_sIj (by decide)]; exact a2, fun k hk => by rw [ix_sIn (by decide), ix_sIn (by decide)]; exact a3 k hk⟩, h2, h3, h4, h5, ?_, ix_sIs⟩
  by_cases hic : i = c
  · rw [hic, h5] at hi; omega
  · omega
theorem cz_goPast {T : Nat → Int32} {n c i : Nat} {x : Int32} {s : am_S} (h : sq_CP T n c i s) (hx : x ≠ 10054) : (sq_cc T n (sq_tp T n i) = x ∧ sq_tp T n i < n ∧ ∃ s', F_X6_goPast_40 x s = some (1, s') ∧ sq_CP T n c (i + 1) s' ∧ ix_F2 (fun k j => k == 40 && j == 5) s s') ∨ (sq_cc T n (sq_tp T n i) ≠ x ∧ F_X6_goPast_40 x s = some (0, s)) := by
  have hc := cz_cur h
  by_cases he : sq_cc T n (sq_tp T n i) = x
  · left
    have hn : sq_tp T n i < n := by
      by_cases hh : sq_tp T n i < n
      · exact hh
      · unfold sq_cc at he; rw [if_neg hh] at he; exact absurd he.symm hx
    refine ⟨he, hn, _, ?_, sq_CP_5 h hn, ix_F2.I (by rfl)⟩
    rw [F_X6_goPast_40, hc, ix_b1]
    dsimp only
    rw [if_pos he, h.2.2.2.2.2.2, ix_addL, ix_b1]
  · right
    refine ⟨he, ?_⟩
    rw [F_X6_goPast_40, hc, ix_b1]
    dsimp only
    rw [if_neg he]
theorem cz_isValue {x : Int32} {s : am_S} : F_X6_isValue x s = some (if 0 ≤ x ∧ x < 10005 then 1 else 0, s) := by
  unfold F_X6_isValue
  by_cases h1 : x < 0
  · rw [if_pos h1, if_neg (fun z => absurd h1 (Int32.not_lt.mpr z.1))]
  · rw [if_neg h1]
    by_cases h2 : 10005 ≤ x
    · rw [if_pos h2, if_neg (fun z => absurd z.2 (Int32.not_lt.mpr h2))]
    · rw [if_neg h2, if_pos ⟨Int32.not_lt.mp h1, Int32.not_le.mp h2⟩]
theorem cz_addCode {c : Nat} {x : Int32} {s : am_S} (h : s.1 44 1 = Int32.ofNat c) (hc : c < 200) : F_X7_addCode_44 x s = some (am_sI (am_sI s 49 c x) 44 1 (Int32.ofNat (c + 1))) := by
  have hn : (Int32.ofNat c).toNatClampNeg = c := ix_nat (by omega)
  rw [F_X7_addCode_44, h, if_neg (by rw [ix_Lle (by omega) (by omega)]; omega), if_pos ((ix_in (by omega)).mpr (by omega))]
  simp only [hn]
  rw [ix_b1, ix_sIn (by decide), h, ix_addL, ix_b1]
theorem sq_CP_c {T : Nat → Int32} {n c i k j : Nat} {x : Int32} {s : am_S} (h : sq_CP T n c i s) (hk : 44 ≤ k) : sq_CP T n c i (am_sI s k j x) := by
  obtain ⟨⟨a0, a1, a2, a3⟩, h2, h3, h4, h5, h6, h7⟩ := h
  have g : ∀ z, z < 44 → (am_sI s k j x).1 z = s.1 z := fun z hz => ix_sIn (by omega)
  exact ⟨⟨by rw [g 40 (by omega)]; exact a0, by rw [g 41 (by omega)]; exact a1, by rw [g 40 (by omega)]; exact a2, fun q hq => by rw [g 42 (by omega), g 43 (by omega)]; exact a3 q hq⟩, h2, h3, h4, h5, h6, by rw [g 40 (by omega)]; exact h7⟩
