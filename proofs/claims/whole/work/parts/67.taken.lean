/-! LAYER 2: taken agrees (written by hand) -/
theorem cz_holds {s : am_S} {m : Nat → Int32} {q : Nat} (R : sq_R s.1 8 m) (hq : q < 4) : F_X11_holdsVoice_0 (Int32.ofNat q) s = some (if s.1 79 q = 0 ∧ (0 ≤ s.1 80 q ∧ s.1 80 q < m 0) then 1 else 0, s) := by
  have hi4 : am_in (Int32.ofNat q) 4 := (ix_in (by omega)).mpr (by omega)
  have hn : (Int32.ofNat q).toNatClampNeg = q := ix_nat (by omega)
  unfold F_X11_holdsVoice_0
  rw [if_pos hi4]
  simp only [hn]
  by_cases h1 : s.1 79 q = 0
  · rw [if_pos h1, if_pos hi4, cz_has R, ix_b1]
    dsimp only
    by_cases h2 : 0 ≤ s.1 80 q ∧ s.1 80 q < m 0
    · rw [if_pos h2, if_neg (show ¬ (1 : Int32) = 0 by decide), if_pos ⟨h1, h2⟩]
    · rw [if_neg h2, if_pos (show (0 : Int32) = 0 from rfl), if_neg (show ¬ (s.1 79 q = 0 ∧ (0 ≤ s.1 80 q ∧ s.1 80 q < m 0)) from fun z => h2 z.2)]
  · rw [if_neg h1, if_neg (show ¬ (s.1 79 q = 0 ∧ (0 ≤ s.1 80 q ∧ s.1 80 q < m 0)) from fun z => h1 z.1)]
theorem mz_onShelf {s : am_S} {q : Nat} (ok : sq_Ok (s.1 83)) (hq : q < 4) : F_X12_onShelf_82 (Int32.ofNat q) s = some (if s.1 96 q = 1 ∧ (0 ≤ s.1 97 q ∧ s.1 97 q < s.1 83 0) then s.1 97 q else -1, s) := by
  have hi4 : am_in (Int32.ofNat q) 4 := (ix_in (by omega)).mpr (by omega)
  have hn : (Int32.ofNat q).toNatClampNeg = q := ix_nat (by omega)
  have h1 : (0 : Int32) ≤ Int32.ofNat q ∧ Int32.ofNat q ≤ 3 := by
    rw [ix_Lle (by omega) (by omega), ix_leL (by omega) (by omega)]; omega
  unfold F_X12_onShelf_82
  rw [mz_isOne, ix_b1, ix_wi_p h1]
  dsimp only
  rw [if_neg (show ¬ (1 : Int32) = 0 by decide), if_pos hi4]
  simp only [hn]
  by_cases h1 : s.1 96 q = 1
  · rw [if_pos h1, if_pos hi4, mz_isVoice ok, ix_b1]
    dsimp only
    by_cases h2 : 0 ≤ s.1 97 q ∧ s.1 97 q < s.1 83 0
    · rw [if_pos h2, if_neg (show ¬ (1 : Int32) = 0 by decide), if_pos hi4, if_pos ⟨h1, h2⟩]
    · rw [if_neg h2, if_pos (show (0 : Int32) = 0 from rfl), if_neg (show ¬ (s.1 96 q = 1 ∧ (0 ≤ s.1 97 q ∧ s.1 97 q < s.1 83 0)) from fun z => h2 z.2)]
  · rw [if_neg h1, if_neg (show ¬ (s.1 96 q = 1 ∧ (0 ≤ s.1 97 q ∧ s.1 97 q < s.1 83 0)) from fun z => h1 z.1)]
theorem mz_onShelf0 {s : am_S} {a : Int32} (h : ¬ ((0 : Int32) ≤ a ∧ a ≤ 3)) : F_X12_onShelf_82 a s = some (-1, s) := by
  unfold F_X12_onShelf_82
  rw [mz_isOne, ix_b1, ix_wi_n h]; rfl
theorem ix_m10 {x : Int32} : ix_wi (x - 10) 0 4 = ix_wi x 10 14 := by
  have h : (0 ≤ x - 10 ∧ x - 10 ≤ 4) ↔ (10 ≤ x ∧ x ≤ 14) := by
    rw [ix_le', ix_le', ix_le', ix_le', Int32.toInt_sub]
    have e0 : (0 : Int32).toInt = 0 := rfl
    have e4 : (4 : Int32).toInt = 4 := rfl
    have e10 : (10 : Int32).toInt = 10 := rfl
    have e14 : (14 : Int32).toInt = 14 := rfl
    have l1 := Int32.le_toInt x
    have l2 := Int32.toInt_lt x
    rw [e0, e4, e10, e14, Int.bmod_def]
    split <;> omega
  unfold ix_wi
  by_cases h1 : 10 ≤ x ∧ x ≤ 14
  · rw [if_pos (h.mpr h1), if_pos h1]
  · rw [if_neg (fun z => h1 (h.mp z)), if_neg h1]
theorem ag_taken {a b : Int32} : jz_A (F_X11_taken_0 a b) (F_X12_taken_82 a b) := by
  intro s j
  obtain ⟨ok, R⟩ := j.1
  have z1 : ¬ (1 : Int32) = 0 := by decide
  have z0 : (0 : Int32) = 0 := rfl
  by_cases h1 : (0 : Int32) ≤ a ∧ a ≤ 3
  rotate_left
  · refine jz_A0 (v := -1) j ?_ ?_
    · rw [F_X11_taken_0, ix_cw, ix_b1, cz_isShelf, ix_b1, ix_wi_n h1]; rfl
    · rw [F_X12_taken_82, mz_isOne, ix_b1, ix_wi_n h1]; rfl
  obtain ⟨q, -, hq, rfl⟩ := ix_rng (a := 0) (b := 3) (by omega) (by omega) h1
  have hq4 : q < 4 := by omega
  have hi4 : am_in (Int32.ofNat q) 4 := (ix_in (by omega)).mpr (by omega)
  have hn : (Int32.ofNat q).toNatClampNeg = q := ix_nat (by omega)
  by_cases h2 : ((0 : Int32) ≤ b ∧ b ≤ 5) ∨ ((10 : Int32) ≤ b ∧ b ≤ 14)
  rotate_left
  · have n1 : ¬ ((0 : Int32) ≤ b ∧ b ≤ 5) := fun z => h2 (Or.inl z)
    have n2 : ¬ ((10 : Int32) ≤ b ∧ b ≤ 14) := fun z => h2 (Or.inr z)
    refine jz_A0 (v := -1) j ?_ ?_
    · rw [F_X11_taken_0, ix_cw, ix_b1, cz_isShelf, ix_b1, ix_wi_p h1]
      dsimp only
      rw [if_neg z1, ix_wi_n n1, if_pos z0, cz_isSort, ix_m10, ix_wi_n n2]; rfl
    · rw [F_X12_taken_82, mz_isOne, ix_b1, ix_wi_p h1]
      dsimp only
      rw [if_neg z1, mz_in0x5, ix_b1, ix_wi_n n1]
      dsimp only
      rw [if_pos z0, mz_in10x14, ix_wi_n n2]; rfl
  have hC : F_X11_taken_0 (Int32.ofNat q) b s = F_X11_taken_0_b30 (Int32.ofNat q) b (ix_wi b 0 5) s := by
    rw [F_X11_taken_0, ix_cw, ix_b1, cz_isShelf, ix_b1, ix_wi_p h1]
    dsimp only
    rw [if_neg z1]
    rcases h2 with h2 | h2
    · rw [ix_wi_p h2, if_neg z1]
    · by_cases h3 : (0 : Int32) ≤ b ∧ b ≤ 5
      · rw [ix_wi_p h3, if_neg z1]
      · rw [ix_wi_n h3, if_pos z0, cz_isSort, ix_m10, ix_wi_p h2, ix_b1]
        dsimp only
        rw [if_neg z1]
  have hM : F_X12_taken_82 (Int32.ofNat q) b s = F_X12_taken_82_b35 (Int32.ofNat q) b s := by
    rw [F_X12_taken_82, mz_isOne, ix_b1, ix_wi_p h1]
    dsimp only
    rw [if_neg z1, mz_in0x5, ix_b1]
    dsimp only
    by_cases h3 : (0 : Int32) ≤ b ∧ b ≤ 5
    · rw [ix_wi_p h3, if_neg z1]
    · rw [ix_wi_n h3, if_pos z0, mz_in10x14, ix_wi_p (h2.resolve_left h3), ix_b1]
      dsimp only
      rw [if_neg z1]
  have jL := j.2.2.2.2.2.1 q hq4
  have hC0 : ∀ v, F_X11_taken_0_b30 (Int32.ofNat q) b (ix_wi b 0 5) s = some (v, s) → F_X12_taken_82_b35 (Int32.ofNat q) b s = some (v, s) → ∃ v s1 s2, F_X11_taken_0 (Int32.ofNat q) b s = some (v, s1) ∧ F_X12_taken_82 (Int32.ofNat q) b s1 = some (v, s2) ∧ jz_J s2 := fun v e1 e2 => jz_A0 (v := v) j (by rw [hC]; exact e1) (by rw [hM]; exact e2)
  rcases jL with ⟨l1, l2, l3, l4⟩ | ⟨l1, l2, l3, l4, l5⟩ | ⟨l1, l2⟩
  · by_cases hv : 0 ≤ s.1 80 q ∧ s.1 80 q < s.1 83 0
    · obtain ⟨v, hv1, hv6, ev⟩ := sq_isv ok hv
      have ev2 : s.1 97 q = Int32.ofNat v := by rw [← l3]; exact ev
      have hpos : (0 : Int32) ≤ Int32.ofNat v := by rw [ix_Lle (by omega) (by omega)]; omega
      have hv6i : am_in (Int32.ofNat v) 6 := (ix_in (by omega)).mpr (by omega)
      have hnv : (Int32.ofNat v).toNatClampNeg = v := ix_nat (by omega)
      have hcz : F_X11_holdsVoice_0 (Int32.ofNat q) s = some (1, s) := by rw [cz_holds R hq4, if_pos ⟨l1, hv⟩]
      have hmz : F_X12_onShelf_82 (Int32.ofNat q) s = some (Int32.ofNat v, s) := by rw [mz_onShelf ok hq4, if_pos ⟨l2, by rw [← l3]; exact hv⟩, ev2]
      have hMs : F_X12_taken_82_b35 (Int32.ofNat q) b s = F_X12_taken_82_b58 (Int32.ofNat q) b (Int32.ofNat v) s := by
        rw [F_X12_taken_82_b35, hmz, ix_b1]
        dsimp only
        rw [if_pos hpos]
      obtain ⟨k, hk, ek⟩ := (ok.2.2.2.2.2.1 v hv6).1
      have e10 : s.1 10 v = Int32.ofNat k := by rw [(R.2.2.2.2.2.2.2.2.2.1 v hv6).1, ek]
      by_cases h3 : (0 : Int32) ≤ b ∧ b ≤ 5
      · have h6 : ¬ (6 : Int32) ≤ b := by
          obtain ⟨n, -, hn5, rfl⟩ := ix_rng (a := 0) (b := 5) (by omega) (by omega) h3
          rw [ix_Lle (by omega) (by omega)]; omega
        obtain ⟨u, eu⟩ : ∃ u : Int32, u = if b = 0 ∨ Int32.ofNat k = b ∨ (Int32.ofNat k = 3 ∧ b = 2) ∨ (Int32.ofNat k = 5 ∧ b = 4) then 1 else 0 := ⟨_, rfl⟩
        have hcu := cz_under (a := b) (s := s) hk
        have hmu := mz_under (k := Int32.ofNat k) (a := b) (s := s)
        rw [← eu] at hcu hmu
        refine hC0 (if u = 0 then -13 else Int32.ofNat v) ?_ ?_
        · rw [F_X11_taken_0_b30, if_pos hi4, hcz, ix_b1, ix_wi_p h3]
          dsimp only
          rw [if_neg z1, if_neg z1]
          simp only [hn, ev, hnv]
          rw [if_pos hv6i, e10, hcu, ix_b1]
          dsimp only
          split <;> rfl
        · rw [hMs, F_X12_taken_82_b58, if_neg (ix_nn (by omega)), if_neg h6, mz_its0 hv6, ix_b1, ek]
          dsimp only
          rw [hmu, ix_b1]
          dsimp only
          by_cases hu : u = 0
          · rw [if_pos hu, if_pos hu, F_X12_taken_82_b85, F_X12_taken_82_b107, if_pos z0]
          · rw [if_neg hu, if_neg hu, F_X12_taken_82_b107, if_neg z1, if_pos hi4, hn, ev2]
      · have h6 : (6 : Int32) ≤ b := by
          obtain ⟨n, hn1, hn2, rfl⟩ := ix_rng (a := 10) (b := 14) (by omega) (by omega) (h2.resolve_left h3)
          rw [ix_Lle (by omega) (by omega)]; omega
        refine hC0 (-13) ?_ ?_
        · rw [F_X11_taken_0_b30, if_pos hi4, hcz, ix_b1, ix_wi_n h3]
          dsimp only
          rw [if_neg z1, if_pos z0]
        · rw [hMs, F_X12_taken_82_b58, if_neg (ix_nn (by omega)), if_pos h6, F_X12_taken_82_b85, F_X12_taken_82_b107, if_pos z0]
    · have hcz : F_X11_holdsVoice_0 (Int32.ofNat q) s = some (0, s) := by rw [cz_holds R hq4, if_neg (fun z => hv z.2)]
      have hmz : F_X12_onShelf_82 (Int32.ofNat q) s = some (-1, s) := by rw [mz_onShelf ok hq4, if_neg (fun z => hv (by rw [l3]; exact z.2))]
      have m1 : ¬ (0 : Int32) ≤ -1 := by decide
      have m2 : ¬ (2 : Int32) ≤ s.1 96 q := by rw [l2]; decide
      have m3 : ¬ s.1 79 q = 1 := by rw [l1]; decide
      refine hC0 (-11) ?_ ?_
      · rw [F_X11_taken_0_b30, if_pos hi4, hcz, ix_b1]
        dsimp only
        rw [if_pos z0, if_pos hi4]
        simp only [hn]
        rw [if_neg m3]
      · rw [F_X12_taken_82_b35, hmz, ix_b1]
        dsimp only
        rw [if_neg m1, if_pos hi4, hn, if_neg m2]
  · have hcz : F_X11_holdsVoice_0 (Int32.ofNat q) s = some (0, s) := by rw [cz_holds R hq4, if_neg (fun z => by have := z.1; rw [l1] at this; exact absurd this (by decide))]
    have hmz : F_X12_onShelf_82 (Int32.ofNat q) s = some (-1, s) := by rw [mz_onShelf ok hq4, if_neg (fun z => by have := z.1; rw [l2] at this; exact absurd this (by decide))]
    have m1 : ¬ (0 : Int32) ≤ -1 := by decide
    have m1' : (-1 : Int32) < 0 := by decide
    have m2 : (2 : Int32) ≤ s.1 96 q := by rw [l2]; decide
    by_cases he : s.1 80 q = b - 10
    · refine hC0 (s.1 81 q) ?_ ?_
      · rw [F_X11_taken_0_b30, if_pos hi4, hcz, ix_b1]
        dsimp only
        rw [if_pos z0, if_pos hi4]
        simp only [hn]
        rw [if_pos l1, if_pos he, if_pos hi4]
      · rw [F_X12_taken_82_b35, hmz, ix_b1]
        dsimp only
        rw [if_neg m1, if_pos hi4, hn, if_pos m2, F_X12_taken_82_b58, if_pos m1', if_pos hi4, hn, if_pos (show b - 10 = s.1 98 q by rw [← l3]; exact he.symm), F_X12_taken_82_b107, if_neg z1, if_pos hi4, hn, l5]
    · refine hC0 (-13) ?_ ?_
      · rw [F_X11_taken_0_b30, if_pos hi4, hcz, ix_b1]
        dsimp only
        rw [if_pos z0, if_pos hi4]
        simp only [hn]
        rw [if_pos l1, if_neg he]
      · rw [F_X12_taken_82_b35, hmz, ix_b1]
        dsimp only
        rw [if_neg m1, if_pos hi4, hn, if_pos m2, F_X12_taken_82_b58, if_pos m1', if_pos hi4, hn, if_neg (show ¬ b - 10 = s.1 98 q from fun z => he (by rw [l3]; exact z.symm)), F_X12_taken_82_b107, if_pos z0]
  · have hcz : F_X11_holdsVoice_0 (Int32.ofNat q) s = some (0, s) := by rw [cz_holds R hq4, if_neg (fun z => by have := z.1; rw [l1] at this; exact absurd this (by decide))]
    have hmz : F_X12_onShelf_82 (Int32.ofNat q) s = some (-1, s) := by rw [mz_onShelf ok hq4, if_neg (fun z => by have := z.1; rw [l2] at this; exact absurd this (by decide))]
    have m1 : ¬ (0 : Int32) ≤ -1 := by decide
    have m2 : ¬ (2 : Int32) ≤ s.1 96 q := by rw [l2]; decide
    have m3 : ¬ s.1 79 q = 1 := by rw [l1]; decide
    refine hC0 (-11) ?_ ?_
    · rw [F_X11_taken_0_b30, if_pos hi4, hcz, ix_b1]
      dsimp only
      rw [if_pos z0, if_pos hi4]
      simp only [hn]
      rw [if_neg m3]
    · rw [F_X12_taken_82_b35, hmz, ix_b1]
      dsimp only
      rw [if_neg m1, if_pos hi4, hn, if_neg m2]
