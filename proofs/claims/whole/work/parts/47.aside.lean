/-! LAYER 2: the sea put aside and brought back (written by wip/whole/l2/gen47.py) -/
theorem mz_putsL : ∀ (l v f : Nat) (s : am_S), v + l = 296 → l < f → ∃ s', F_X12_puts_82_b2 f (Int32.ofNat v) s = some s' ∧ (∀ q, s'.1 85 q = if v ≤ q ∧ q < 296 then s.1 83 q else s.1 85 q) ∧ ix_Fr (fun q => q == 85) s s' := by
  intro l
  induction l with
  | zero =>
    intro v f s hl hf
    obtain ⟨f, rfl⟩ : ∃ g, f = g + 1 := ⟨f - 1, by omega⟩
    refine ⟨s, ?_, fun q => by rw [if_neg (by omega)], ix_Fr.rf⟩
    rw [F_X12_puts_82_b2, if_pos (by rw [ix_Lle (by omega) (by omega)]; omega)]
  | succ l ih =>
    intro v f s hl hf
    obtain ⟨f, rfl⟩ : ∃ g, f = g + 1 := ⟨f - 1, by omega⟩
    have hi : am_in (Int32.ofNat v) 296 := (ix_in (by omega)).mpr (by omega)
    obtain ⟨s', i1, i2, i3⟩ := ih (v + 1) f (am_sI s 85 v (s.1 83 v)) (by omega) (by omega)
    refine ⟨s', ?_, fun q => ?_, (ix_Fr.I (by rfl)).tr i3⟩
    · rw [F_X12_puts_82_b2, if_neg (by rw [ix_Lle (by omega) (by omega)]; omega), if_pos hi, if_pos hi, ix_nat (by omega), ix_b1, ix_addL, i1]
    · rw [i2 q, ix_83 (by decide), ix_sI1]
      by_cases h : q = v
      · subst h; rw [if_neg (by omega), if_pos rfl, if_pos (by omega)]
      · by_cases h2 : v + 1 ≤ q ∧ q < 296
        · rw [if_pos h2, if_pos (by omega)]
        · rw [if_neg h2, if_neg h, if_neg (by omega)]
theorem mz_backL : ∀ (l v f : Nat) (s : am_S), v + l = 296 → l < f → ∃ s', F_X12_putsBack_82_b2 f (Int32.ofNat v) s = some s' ∧ (∀ q, s'.1 83 q = if v ≤ q ∧ q < 296 then s.1 85 q else s.1 83 q) ∧ ix_Fr (fun q => q == 83) s s' := by
  intro l
  induction l with
  | zero =>
    intro v f s hl hf
    obtain ⟨f, rfl⟩ : ∃ g, f = g + 1 := ⟨f - 1, by omega⟩
    refine ⟨s, ?_, fun q => by rw [if_neg (by omega)], ix_Fr.rf⟩
    rw [F_X12_putsBack_82_b2, if_pos (by rw [ix_Lle (by omega) (by omega)]; omega)]
  | succ l ih =>
    intro v f s hl hf
    obtain ⟨f, rfl⟩ : ∃ g, f = g + 1 := ⟨f - 1, by omega⟩
    have hi : am_in (Int32.ofNat v) 296 := (ix_in (by omega)).mpr (by omega)
    obtain ⟨s', i1, i2, i3⟩ := ih (v + 1) f (am_sI s 83 v (s.1 85 v)) (by omega) (by omega)
    refine ⟨s', ?_, fun q => ?_, (ix_Fr.I (by rfl)).tr i3⟩
    · rw [F_X12_putsBack_82_b2, if_neg (by rw [ix_Lle (by omega) (by omega)]; omega), if_pos hi, if_pos hi, ix_nat (by omega), ix_b1, ix_addL, i1]
    · rw [i2 q, ix_sIn (k := 83) (k1 := 85) (by decide), ix_sI1]
      by_cases h : q = v
      · subst h; rw [if_neg (by omega), if_pos rfl, if_pos (by omega)]
      · by_cases h2 : v + 1 ≤ q ∧ q < 296
        · rw [if_pos h2, if_pos (by omega)]
        · rw [if_neg h2, if_neg h, if_neg (by omega)]
theorem mz_puts (s : am_S) : ∃ s', F_X12_puts_82 s = some s' ∧ (∀ q, q < 296 → s'.1 85 q = s.1 83 q) ∧ ix_Fr (fun q => q == 85) s s' := by
  obtain ⟨s', i1, i2, i3⟩ := mz_putsL 296 0 1000 s (by omega) (by omega)
  exact ⟨s', i1, fun q hq => by rw [i2 q, if_pos ⟨Nat.zero_le _, hq⟩], i3⟩
theorem mz_back {s : am_S} {m : Nat → Int32} (h : ∀ q, q < 296 → s.1 85 q = m q) (h2 : ∀ q, 296 ≤ q → s.1 83 q = m q) : ∃ s', F_X12_putsBack_82 s = some s' ∧ s'.1 83 = m ∧ ix_Fr (fun q => q == 83) s s' := by
  obtain ⟨s', i1, i2, i3⟩ := mz_backL 296 0 1000 s (by omega) (by omega)
  refine ⟨s', i1, funext fun q => ?_, i3⟩
  rw [i2 q]
  by_cases hq : q < 296
  · rw [if_pos ⟨Nat.zero_le _, hq⟩, h q hq]
  · rw [if_neg (by omega), h2 q (by omega)]
/-- a moment as the class keeps it -/
def sq_mo (x : Nat → Int32) (m : Nat → Int32) : Prop := x 0 = m 3 ∧ x 1 = m 4 ∧ x 2 = Int32.ofNat (sq_cs m) ∧ ∀ v, v < 6 → x (3 + v) = m (24 + 5 * v + 3)
theorem sq_mo_R {x x' : Nat → Nat → Int32} {m m' : Nat → Int32} (R : sq_R x 8 m') (hm : ∀ j, ¬ sq_ch j → m' j = m j) (h : ∀ k, k ≠ 8 → k ≠ 13 → x' k = x k) (h8 : ∀ j, j ≠ 0 → j ≠ 3 → j ≠ 6 → x' 8 j = x 8 j) (e0 : x' 8 0 = m 3) (e3 : x' 8 3 = m 4) (e6 : x' 8 6 = Int32.ofNat (sq_cs m)) (ep : ∀ v, v < 6 → x' 13 v = m (24 + 5 * v + 3)) : sq_R x' 8 m := by
  obtain ⟨a0, a1, a2, a3, a4, a5, a6, a7, a8, a9, a10, a11⟩ := R
  refine ⟨e0, ?_, ?_, e3, ?_, ?_, e6, ?_, fun j hj => ?_, fun v hv => ?_, fun r hr => ?_, sq_RR_c (hm 1 (by unfold sq_ch; omega)).symm (fun j hj => (hm j (by unfold sq_ch; omega)).symm) (fun k h1 h2 => h k (by omega) (by omega)) a11⟩
  · rw [h8 1 (by omega) (by omega) (by omega), a1, hm 2 (by unfold sq_ch; omega)]
  · rw [h8 2 (by omega) (by omega) (by omega), a2, hm 5 (by unfold sq_ch; omega)]
  · rw [h8 4 (by omega) (by omega) (by omega), a4, hm 7 (by unfold sq_ch; omega)]
  · rw [h8 5 (by omega) (by omega) (by omega), a5, hm 0 (by unfold sq_ch; omega)]
  · rw [h8 7 (by omega) (by omega) (by omega), a7, hm 6 (by unfold sq_ch; omega)]
  · rw [h (8 + 1) (by omega) (by omega), a8 j hj, hm _ (by unfold sq_ch; omega)]
  · obtain ⟨b0, b1, b2, b3⟩ := a9 v hv
    refine ⟨?_, ?_, ?_, ep v hv⟩
    · rw [h (8 + 2) (by omega) (by omega), b0, hm _ (by unfold sq_ch; omega)]
    · rw [h (8 + 3) (by omega) (by omega), b1, hm _ (by unfold sq_ch; omega)]
    · rw [h (8 + 4) (by omega) (by omega), b2, hm _ (by unfold sq_ch; omega)]
  · obtain ⟨b0, b1, b2⟩ := a10 r hr
    rw [h (8 + 6) (by omega) (by omega), h (8 + 7) (by omega) (by omega), h (8 + 8) (by omega) (by omega), b0, b1, b2, hm _ (by unfold sq_ch; omega), hm _ (by unfold sq_ch; omega), hm _ (by unfold sq_ch; omega)]
    exact ⟨rfl, rfl, rfl⟩
theorem ix_z9 : (0 : Int32).toNatClampNeg = 0 ∧ (1 : Int32).toNatClampNeg = 1 ∧ (2 : Int32).toNatClampNeg = 2 ∧ (3 : Int32).toNatClampNeg = 3 ∧ (6 : Int32).toNatClampNeg = 6 := by decide
theorem cz_save_51 {s : am_S} {m : Nat → Int32} (R : sq_R s.1 8 m) : ∃ s', F_X8_saveTo_8_51 s = some s' ∧ sq_mo (s'.1 51) m ∧ ix_Fr (fun q => q == 51) s s' := by
  obtain ⟨z0, z1, z2, z3, z6⟩ := ix_z9
  obtain ⟨s1, e1⟩ : ∃ s1, s1 = am_sI s 51 0 (s.1 8 0) := ⟨_, rfl⟩
  obtain ⟨s2, e2⟩ : ∃ s2, s2 = am_sI s1 51 1 (s1.1 8 3) := ⟨_, rfl⟩
  obtain ⟨s3, e3⟩ : ∃ s3, s3 = am_sI s2 51 2 (s2.1 8 6) := ⟨_, rfl⟩
  have f1 : ix_Fr (fun q => q == 51) s s1 := by rw [e1]; exact ix_Fr.I (rfl)
  have f2 : ix_Fr (fun q => q == 51) s s2 := f1.tr (by rw [e2]; exact ix_Fr.I (rfl))
  have f3 : ix_Fr (fun q => q == 51) s s3 := f2.tr (by rw [e3]; exact ix_Fr.I (rfl))
  refine ⟨am_sC s3 13 51 0 3 6, ?_, ?_, f3.tr (ix_Fr.C (rfl))⟩
  · unfold F_X8_saveTo_8_51
    rw [if_pos (by decide), if_pos (by decide), z0, ix_b1, ← e1, if_pos (by decide), z1, ix_b1, ← e2, if_pos (by decide), z2, ix_b1, ← e3, z3, z6, if_pos (by decide)]
    rfl
  · obtain ⟨a0, a1, a2, a3, a4, a5, a6, a7, -⟩ := id R
    refine ⟨?_, ?_, ?_, fun v hv => ?_⟩
    · rw [ix_sC, if_neg (by omega), e3, ix_sIj (by omega), e2, ix_sIj (by omega), e1, ix_sIs]; exact a0
    · rw [ix_sC, if_neg (by omega), e3, ix_sIj (by omega), e2, ix_sIs, e1, ix_sIj (by omega)]; exact a3
    · rw [ix_sC, if_neg (by omega), e3, ix_sIs, e2, ix_sIj (by omega), e1, ix_sIj (by omega)]; exact a6
    · rw [ix_sC, if_pos (by omega), f3.1 13 (by first | rfl | (simp; done) | (simp; omega)), show 0 + (3 + v - 3) = v by omega]
      exact cz_place R hv
theorem cz_come_51 {s : am_S} {m m' : Nat → Int32} (R : sq_R s.1 8 m') (hm : ∀ j, ¬ sq_ch j → m' j = m j) (hmo : sq_mo (s.1 51) m) : ∃ s', F_X8_comeBackTo_8_51 s = some s' ∧ sq_R s'.1 8 m ∧ ix_Fr (fun q => q == 8 || q == 13) s s' := by
  obtain ⟨z0, z1, z2, z3, z6⟩ := ix_z9
  obtain ⟨m0, m1, m2, m3⟩ := hmo
  obtain ⟨s1, e1⟩ : ∃ s1, s1 = am_sI s 8 0 (s.1 51 0) := ⟨_, rfl⟩
  obtain ⟨s2, e2⟩ : ∃ s2, s2 = am_sI s1 8 3 (s1.1 51 1) := ⟨_, rfl⟩
  obtain ⟨s3, e3⟩ : ∃ s3, s3 = am_sI s2 8 6 (s2.1 51 2) := ⟨_, rfl⟩
  have f1 : ix_Fr (fun q => q == 8) s s1 := by rw [e1]; exact ix_Fr.I (by rfl)
  have f2 : ix_Fr (fun q => q == 8) s s2 := f1.tr (by rw [e2]; exact ix_Fr.I (by rfl))
  have f3 : ix_Fr (fun q => q == 8) s s3 := f2.tr (by rw [e3]; exact ix_Fr.I (by rfl))
  refine ⟨am_sC s3 51 13 3 0 6, ?_, ?_, (f3.wd (fun k hk => by simp at hk ⊢; exact hk.1)).tr (ix_Fr.C (by rfl))⟩
  · unfold F_X8_comeBackTo_8_51
    rw [if_pos (by decide), if_pos (by decide), z0, ix_b1, ← e1, if_pos (by decide), z1, ix_b1, ← e2, if_pos (by decide), z2, ix_b1, ← e3, z3, z6, if_pos (by decide)]
    rfl
  · refine sq_mo_R R hm (fun k h8 h13 => ?_) (fun j h0 h3 h6 => ?_) ?_ ?_ ?_ (fun v hv => ?_)
    · rw [ix_sCn h13]; exact f3.1 k (by simp; exact h8)
    · rw [ix_sC, if_neg (by omega), e3, ix_sIj (by omega), e2, ix_sIj (by omega), e1, ix_sIj (by omega)]
    · rw [ix_sC, if_neg (by omega), e3, ix_sIj (by omega), e2, ix_sIj (by omega), e1, ix_sIs]; exact m0
    · rw [ix_sC, if_neg (by omega), e3, ix_sIj (by omega), e2, ix_sIs, e1, ix_sIj (by omega)]; exact m1
    · rw [ix_sC, if_neg (by omega), e3, ix_sIs, e2, ix_sIj (by omega), e1, ix_sIj (by omega)]; exact m2
    · rw [ix_sC, if_pos (by omega), f3.1 51 (by simp; try omega), show 3 + (v - 0) = 3 + v by omega]
      exact m3 v hv
theorem cz_save_f52 {s : am_S} {m : Nat → Int32} {j : Nat} (hj : j < 4) (R : sq_R s.1 8 m) : ∃ s', F_X8_saveTo_8_f52 j s = some s' ∧ sq_mo (s'.1 (53 + j)) m ∧ ix_Fr (fun q => q == 53 + j) s s' := by
  obtain ⟨z0, z1, z2, z3, z6⟩ := ix_z9
  obtain ⟨s1, e1⟩ : ∃ s1, s1 = am_sI s (53 + j) 0 (s.1 8 0) := ⟨_, rfl⟩
  obtain ⟨s2, e2⟩ : ∃ s2, s2 = am_sI s1 (53 + j) 1 (s1.1 8 3) := ⟨_, rfl⟩
  obtain ⟨s3, e3⟩ : ∃ s3, s3 = am_sI s2 (53 + j) 2 (s2.1 8 6) := ⟨_, rfl⟩
  have f1 : ix_Fr (fun q => q == 53 + j) s s1 := by rw [e1]; exact ix_Fr.I (by simp)
  have f2 : ix_Fr (fun q => q == 53 + j) s s2 := f1.tr (by rw [e2]; exact ix_Fr.I (by simp))
  have f3 : ix_Fr (fun q => q == 53 + j) s s3 := f2.tr (by rw [e3]; exact ix_Fr.I (by simp))
  refine ⟨am_sC s3 13 (53 + j) 0 3 6, ?_, ?_, f3.tr (ix_Fr.C (by simp))⟩
  · unfold F_X8_saveTo_8_f52
    rw [if_pos (by decide), if_pos (by decide), z0, ix_b1, ← e1, if_pos (by decide), z1, ix_b1, ← e2, if_pos (by decide), z2, ix_b1, ← e3, z3, z6, if_pos (by decide)]
    rfl
  · obtain ⟨a0, a1, a2, a3, a4, a5, a6, a7, -⟩ := id R
    refine ⟨?_, ?_, ?_, fun v hv => ?_⟩
    · rw [ix_sC, if_neg (by omega), e3, ix_sIj (by omega), e2, ix_sIj (by omega), e1, ix_sIs]; exact a0
    · rw [ix_sC, if_neg (by omega), e3, ix_sIj (by omega), e2, ix_sIs, e1, ix_sIj (by omega)]; exact a3
    · rw [ix_sC, if_neg (by omega), e3, ix_sIs, e2, ix_sIj (by omega), e1, ix_sIj (by omega)]; exact a6
    · rw [ix_sC, if_pos (by omega), f3.1 13 (by first | rfl | (simp; done) | (simp; omega)), show 0 + (3 + v - 3) = v by omega]
      exact cz_place R hv
theorem cz_come_f52 {s : am_S} {m m' : Nat → Int32} {j : Nat} (hj : j < 4) (R : sq_R s.1 8 m') (hm : ∀ j, ¬ sq_ch j → m' j = m j) (hmo : sq_mo (s.1 (53 + j)) m) : ∃ s', F_X8_comeBackTo_8_f52 j s = some s' ∧ sq_R s'.1 8 m ∧ ix_Fr (fun q => q == 8 || q == 13) s s' := by
  obtain ⟨z0, z1, z2, z3, z6⟩ := ix_z9
  obtain ⟨m0, m1, m2, m3⟩ := hmo
  obtain ⟨s1, e1⟩ : ∃ s1, s1 = am_sI s 8 0 (s.1 (53 + j) 0) := ⟨_, rfl⟩
  obtain ⟨s2, e2⟩ : ∃ s2, s2 = am_sI s1 8 3 (s1.1 (53 + j) 1) := ⟨_, rfl⟩
  obtain ⟨s3, e3⟩ : ∃ s3, s3 = am_sI s2 8 6 (s2.1 (53 + j) 2) := ⟨_, rfl⟩
  have f1 : ix_Fr (fun q => q == 8) s s1 := by rw [e1]; exact ix_Fr.I (by rfl)
  have f2 : ix_Fr (fun q => q == 8) s s2 := f1.tr (by rw [e2]; exact ix_Fr.I (by rfl))
  have f3 : ix_Fr (fun q => q == 8) s s3 := f2.tr (by rw [e3]; exact ix_Fr.I (by rfl))
  refine ⟨am_sC s3 (53 + j) 13 3 0 6, ?_, ?_, (f3.wd (fun k hk => by simp at hk ⊢; exact hk.1)).tr (ix_Fr.C (by rfl))⟩
  · unfold F_X8_comeBackTo_8_f52
    rw [if_pos (by decide), if_pos (by decide), z0, ix_b1, ← e1, if_pos (by decide), z1, ix_b1, ← e2, if_pos (by decide), z2, ix_b1, ← e3, z3, z6, if_pos (by decide)]
    rfl
  · refine sq_mo_R R hm (fun k h8 h13 => ?_) (fun j h0 h3 h6 => ?_) ?_ ?_ ?_ (fun v hv => ?_)
    · rw [ix_sCn h13]; exact f3.1 k (by simp; exact h8)
    · rw [ix_sC, if_neg (by omega), e3, ix_sIj (by omega), e2, ix_sIj (by omega), e1, ix_sIj (by omega)]
    · rw [ix_sC, if_neg (by omega), e3, ix_sIj (by omega), e2, ix_sIj (by omega), e1, ix_sIs]; exact m0
    · rw [ix_sC, if_neg (by omega), e3, ix_sIj (by omega), e2, ix_sIs, e1, ix_sIj (by omega)]; exact m1
    · rw [ix_sC, if_neg (by omega), e3, ix_sIs, e2, ix_sIj (by omega), e1, ix_sIj (by omega)]; exact m2
    · rw [ix_sC, if_pos (by omega), f3.1 (53 + j) (by simp; try omega), show 3 + (v - 0) = 3 + v by omega]
      exact m3 v hv
theorem cz_save_f57 {s : am_S} {m : Nat → Int32} {j : Nat} (hj : j < 4) (R : sq_R s.1 8 m) : ∃ s', F_X8_saveTo_8_f57 j s = some s' ∧ sq_mo (s'.1 (58 + j)) m ∧ ix_Fr (fun q => q == 58 + j) s s' := by
  obtain ⟨z0, z1, z2, z3, z6⟩ := ix_z9
  obtain ⟨s1, e1⟩ : ∃ s1, s1 = am_sI s (58 + j) 0 (s.1 8 0) := ⟨_, rfl⟩
  obtain ⟨s2, e2⟩ : ∃ s2, s2 = am_sI s1 (58 + j) 1 (s1.1 8 3) := ⟨_, rfl⟩
  obtain ⟨s3, e3⟩ : ∃ s3, s3 = am_sI s2 (58 + j) 2 (s2.1 8 6) := ⟨_, rfl⟩
  have f1 : ix_Fr (fun q => q == 58 + j) s s1 := by rw [e1]; exact ix_Fr.I (by simp)
  have f2 : ix_Fr (fun q => q == 58 + j) s s2 := f1.tr (by rw [e2]; exact ix_Fr.I (by simp))
  have f3 : ix_Fr (fun q => q == 58 + j) s s3 := f2.tr (by rw [e3]; exact ix_Fr.I (by simp))
  refine ⟨am_sC s3 13 (58 + j) 0 3 6, ?_, ?_, f3.tr (ix_Fr.C (by simp))⟩
  · unfold F_X8_saveTo_8_f57
    rw [if_pos (by decide), if_pos (by decide), z0, ix_b1, ← e1, if_pos (by decide), z1, ix_b1, ← e2, if_pos (by decide), z2, ix_b1, ← e3, z3, z6, if_pos (by decide)]
    rfl
  · obtain ⟨a0, a1, a2, a3, a4, a5, a6, a7, -⟩ := id R
    refine ⟨?_, ?_, ?_, fun v hv => ?_⟩
    · rw [ix_sC, if_neg (by omega), e3, ix_sIj (by omega), e2, ix_sIj (by omega), e1, ix_sIs]; exact a0
    · rw [ix_sC, if_neg (by omega), e3, ix_sIj (by omega), e2, ix_sIs, e1, ix_sIj (by omega)]; exact a3
    · rw [ix_sC, if_neg (by omega), e3, ix_sIs, e2, ix_sIj (by omega), e1, ix_sIj (by omega)]; exact a6
    · rw [ix_sC, if_pos (by omega), f3.1 13 (by first | rfl | (simp; done) | (simp; omega)), show 0 + (3 + v - 3) = v by omega]
      exact cz_place R hv
theorem cz_come_f57 {s : am_S} {m m' : Nat → Int32} {j : Nat} (hj : j < 4) (R : sq_R s.1 8 m') (hm : ∀ j, ¬ sq_ch j → m' j = m j) (hmo : sq_mo (s.1 (58 + j)) m) : ∃ s', F_X8_comeBackTo_8_f57 j s = some s' ∧ sq_R s'.1 8 m ∧ ix_Fr (fun q => q == 8 || q == 13) s s' := by
  obtain ⟨z0, z1, z2, z3, z6⟩ := ix_z9
  obtain ⟨m0, m1, m2, m3⟩ := hmo
  obtain ⟨s1, e1⟩ : ∃ s1, s1 = am_sI s 8 0 (s.1 (58 + j) 0) := ⟨_, rfl⟩
  obtain ⟨s2, e2⟩ : ∃ s2, s2 = am_sI s1 8 3 (s1.1 (58 + j) 1) := ⟨_, rfl⟩
  obtain ⟨s3, e3⟩ : ∃ s3, s3 = am_sI s2 8 6 (s2.1 (58 + j) 2) := ⟨_, rfl⟩
  have f1 : ix_Fr (fun q => q == 8) s s1 := by rw [e1]; exact ix_Fr.I (by rfl)
  have f2 : ix_Fr (fun q => q == 8) s s2 := f1.tr (by rw [e2]; exact ix_Fr.I (by rfl))
  have f3 : ix_Fr (fun q => q == 8) s s3 := f2.tr (by rw [e3]; exact ix_Fr.I (by rfl))
  refine ⟨am_sC s3 (58 + j) 13 3 0 6, ?_, ?_, (f3.wd (fun k hk => by simp at hk ⊢; exact hk.1)).tr (ix_Fr.C (by rfl))⟩
  · unfold F_X8_comeBackTo_8_f57
    rw [if_pos (by decide), if_pos (by decide), z0, ix_b1, ← e1, if_pos (by decide), z1, ix_b1, ← e2, if_pos (by decide), z2, ix_b1, ← e3, z3, z6, if_pos (by decide)]
    rfl
  · refine sq_mo_R R hm (fun k h8 h13 => ?_) (fun j h0 h3 h6 => ?_) ?_ ?_ ?_ (fun v hv => ?_)
    · rw [ix_sCn h13]; exact f3.1 k (by simp; exact h8)
    · rw [ix_sC, if_neg (by omega), e3, ix_sIj (by omega), e2, ix_sIj (by omega), e1, ix_sIj (by omega)]
    · rw [ix_sC, if_neg (by omega), e3, ix_sIj (by omega), e2, ix_sIj (by omega), e1, ix_sIs]; exact m0
    · rw [ix_sC, if_neg (by omega), e3, ix_sIj (by omega), e2, ix_sIs, e1, ix_sIj (by omega)]; exact m1
    · rw [ix_sC, if_neg (by omega), e3, ix_sIs, e2, ix_sIj (by omega), e1, ix_sIj (by omega)]; exact m2
    · rw [ix_sC, if_pos (by omega), f3.1 (58 + j) (by simp; try omega), show 3 + (v - 0) = 3 + v by omega]
      exact m3 v hv
theorem cz_rem {s : am_S} {m : Nat → Int32} (R : sq_R s.1 8 m) : ∃ s', F_X3_remember_50 s = some s' ∧ sq_mo (s'.1 51) m ∧ ix_Fr (fun q => q == 51) s s' := by
  obtain ⟨s', h1, h2, h3⟩ := cz_save_51 R
  refine ⟨s', ?_, h2, h3⟩
  unfold F_X3_remember_50
  rw [h1, ix_b1]
theorem cz_goBack {s : am_S} {m m' : Nat → Int32} (R : sq_R s.1 8 m') (hm : ∀ j, ¬ sq_ch j → m' j = m j) (hmo : sq_mo (s.1 51) m) : ∃ s', F_X3_goBack_50 s = some s' ∧ sq_R s'.1 8 m ∧ ix_Fr (fun q => q == 8 || q == 13) s s' := by
  obtain ⟨s', h1, h2, h3⟩ := cz_come_51 R hm hmo
  refine ⟨s', ?_, h2, h3⟩
  unfold F_X3_goBack_50
  rw [h1, ix_b1]
