/-! LAYER 2: the will of a voice, in both -/
theorem sq_rn_ok {m : Nat → Int32} (ok : sq_OkR m) : sq_rn m ≤ 8 ∧ m 1 = Int32.ofNat (sq_rn m) := by
  obtain ⟨⟨n, hn, e⟩, -⟩ := ok
  have h : sq_rn m = n := by unfold sq_rn; rw [e, ix_nat (by omega)]
  exact ⟨by omega, by rw [h]; exact e⟩
theorem sq_en_ok {m : Nat → Int32} (ok : sq_OkR m) {r : Nat} (hr : r < sq_rn m) : sq_en m (r + 1) ≤ 200 ∧ m (72 + 3 * r + 2) = Int32.ofNat (sq_en m (r + 1)) ∧ sq_en m r ≤ sq_en m (r + 1) := by
  obtain ⟨-, -, ⟨e, he, e1⟩, h2, -⟩ := ok.2 r hr
  have h : sq_en m (r + 1) = e := by show (m (72 + 3 * r + 2)).toNatClampNeg = e; rw [e1, ix_nat (by omega)]
  exact ⟨by omega, by rw [h]; exact e1, h2⟩
theorem sq_en_mono {m : Nat → Int32} (ok : sq_OkR m) : ∀ d r, r + d ≤ sq_rn m → sq_en m r ≤ sq_en m (r + d) := by
  intro d
  induction d with
  | zero => intro r _; exact Nat.le_refl _
  | succ d ih =>
    intro r h
    have h1 := ih r (by omega)
    have h2 := (sq_en_ok ok (r := r + d) (by omega)).2.2
    exact Nat.le_trans h1 h2
theorem sq_so_01 {m : Nat → Int32} {v a b : Nat} : sq_so m v a b = 0 ∨ sq_so m v a b = 1 := by
  unfold sq_so sq_tr
  split
  · exact Or.inr rfl
  · split
    · exact Or.inr rfl
    · exact Or.inl rfl
theorem mz_soR {s : am_S} {v r : Nat} (hv : v < 6) (ok : sq_OkR (s.1 83)) (hr : r < sq_rn (s.1 83)) : ∃ s', F_X12_isSo_82 (Int32.ofNat (sq_en (s.1 83) r)) (Int32.ofNat (sq_en (s.1 83) (r + 1))) (Int32.ofNat v) s = some (sq_so (s.1 83) v (sq_en (s.1 83) r) (sq_en (s.1 83) (r + 1)), s') ∧ ix_Fr (fun q => q == 86) s s' := by
  obtain ⟨h1, h2, h3⟩ := sq_en_ok ok hr
  unfold F_X12_isSo_82 sq_so
  rcases (ok.2 r hr).2.2.2.2 with h4 | h4
  · rw [← h4, F_X12_isSo_82_b6, if_pos ((ix_le (by omega) (by omega)).mpr (Nat.le_refl _)), if_pos rfl, Nat.sub_self]
    exact ⟨s, rfl, ix_Fr.rf⟩
  · exact mz_so hv _ _ 0 0 [] s 1000 h4 rfl (by omega) (by omega) trivial (by omega) h1 (by omega)
theorem mz_wl {v : Nat} (hv : v < 6) : ∀ (l r f : Nat) (s : am_S), sq_OkR (s.1 83) → r + l = sq_rn (s.1 83) → l + 1 < f → ∃ s', F_X12_will_82_b15 f (Int32.ofNat v) (s.1 83 (24 + 5 * v)) (-1) (Int32.ofNat (sq_en (s.1 83) r)) (Int32.ofNat r) s = some (sq_wl (s.1 83) v l r, s') ∧ ix_Fr (fun q => q == 86) s s' := by
  intro l
  induction l with
  | zero =>
    intro r f s ok hl hf
    obtain ⟨f, rfl⟩ : ∃ g, f = g + 1 := ⟨f - 1, by omega⟩
    obtain ⟨h1, h2⟩ := sq_rn_ok ok
    rw [F_X12_will_82_b15, if_pos (by decide)]
    have e : s.1 83 (1 : Int32).toNatClampNeg = Int32.ofNat (sq_rn (s.1 83)) := h2
    rw [e, if_pos ((ix_le (by omega) (by omega)).mpr (by omega))]
    exact ⟨s, rfl, ix_Fr.rf⟩
  | succ l ih =>
    intro r f s ok hl hf
    obtain ⟨f, rfl⟩ : ∃ g, f = g + 1 := ⟨f - 1, by omega⟩
    obtain ⟨h1, h2⟩ := sq_rn_ok ok
    obtain ⟨g1, g2, g3⟩ := sq_en_ok ok (r := r) (by omega)
    rw [F_X12_will_82_b15, if_pos (by decide)]
    have e : s.1 83 (1 : Int32).toNatClampNeg = Int32.ofNat (sq_rn (s.1 83)) := h2
    rw [e, if_neg (by rw [ix_le (by omega) (by omega)]; omega), if_neg (by decide), ix_Lmul, ix_Ladd]
    have e0 : Int32.ofNat (72 + 3 * r) + 0 = Int32.ofNat (72 + 3 * r) := ix_add _ 0
    have e1 : Int32.ofNat (72 + 3 * r) + 1 = Int32.ofNat (72 + 3 * r + 1) := ix_add _ 1
    have e2 : Int32.ofNat (72 + 3 * r) + 2 = Int32.ofNat (72 + 3 * r + 2) := ix_add _ 2
    rw [e0, e1, e2, if_pos ((ix_in (by omega)).mpr (by omega)), ix_nat (by omega), mz_under, ix_b1, sq_wl]
    dsimp only
    -- what a rule that doesn't hold leads to
    have hno : ∃ s', F_X12_will_82_b86 (F_X12_will_82_b15 f) (Int32.ofNat v) (s.1 83 (24 + 5 * v)) (Int32.ofNat r) (Int32.ofNat (72 + 3 * r)) s = some (sq_wl (s.1 83) v l (r + 1), s') ∧ ix_Fr (fun q => q == 86) s s' := by
      rw [F_X12_will_82_b86, F_X12_will_82_b87, e2, if_pos ((ix_in (by omega)).mpr (by omega)), ix_nat (by omega), ix_b1, g2, ix_addL]
      exact ih (r + 1) f s ok (by omega) (by omega)
    by_cases hu : s.1 83 (72 + 3 * r) = 0 ∨ s.1 83 (24 + 5 * v) = s.1 83 (72 + 3 * r) ∨ (s.1 83 (24 + 5 * v) = 3 ∧ s.1 83 (72 + 3 * r) = 2) ∨ (s.1 83 (24 + 5 * v) = 5 ∧ s.1 83 (72 + 3 * r) = 4)
    · rw [if_pos hu, if_neg (by decide), if_pos ((ix_in (by omega)).mpr (by omega)), ix_nat (by omega), g2]
      obtain ⟨s1, k1, k2⟩ := mz_soR hv ok (r := r) (by omega)
      have e83 : s1.1 83 = s.1 83 := k2.1 83 rfl
      rw [k1, ix_b1]
      dsimp only
      rcases sq_so_01 (m := s.1 83) (v := v) (a := sq_en (s.1 83) r) (b := sq_en (s.1 83) (r + 1)) with hs | hs
      · rw [hs, if_pos rfl, if_neg (fun z => absurd z.2 (by decide)), F_X12_will_82_b86, F_X12_will_82_b87, e2, if_pos ((ix_in (by omega)).mpr (by omega)), ix_nat (by omega), ix_b1, e83, g2, ix_addL]
        obtain ⟨s', i1, i2⟩ := ih (r + 1) f s1 (by rw [e83]; exact ok) (by rw [e83]; omega) (by omega)
        rw [e83] at i1
        exact ⟨s', i1, k2.tr i2⟩
      · rw [hs, if_neg (by decide), if_pos ((ix_in (by omega)).mpr (by omega)), ix_nat (by omega), F_X12_will_82_b87, e2, if_pos ((ix_in (by omega)).mpr (by omega)), ix_nat (by omega), ix_b1, e83, ix_addL, if_pos ⟨hu, rfl⟩]
        obtain ⟨d, hd, hd2⟩ := (ok.2 r (by omega)).2.1
        obtain ⟨f, rfl⟩ : ∃ g, f = g + 1 := ⟨f - 1, by omega⟩
        rw [F_X12_will_82_b15, if_pos (by decide), hd2]
        have hge : (0 : Int32) ≤ Int32.ofNat d := Int32.zero_le_ofNat_of_lt (by omega)
        have hb : F_X12_will_82_b105 (Int32.ofNat d) s1 = some (Int32.ofNat d, s1) := by unfold F_X12_will_82_b105; rw [if_pos hge]
        refine ⟨s1, ?_, k2⟩
        split
        · exact hb
        · exact hb
    · rw [if_neg hu, if_pos rfl, if_neg (fun z => hu z.1)]
      exact hno
theorem mz_will {s : am_S} {v : Nat} (hv : v < 6) (ok : sq_OkR (s.1 83)) : ∃ s', F_X12_will_82 (Int32.ofNat v) s = some (sq_will (s.1 83) v, s') ∧ ix_Fr (fun q => q == 86) s s' := by
  unfold F_X12_will_82 sq_will
  rw [mz_its0 hv, ix_b1]
  exact mz_wl hv (sq_rn (s.1 83)) 0 1000 s ok (by omega) (by have := (sq_rn_ok ok).1; omega)
theorem sq_R_fr {x x' : Nat → Nat → Int32} {m : Nat → Int32} (h : ∀ k, 8 ≤ k → k < 23 → x' k = x k) (R : sq_R x 8 m) : sq_R x' 8 m := by
  obtain ⟨a0, a1, a2, a3, a4, a5, a6, a7, a8, a9, a10, a11⟩ := R
  have e8 := h 8 (by omega) (by omega)
  refine ⟨by rw [e8]; exact a0, by rw [e8]; exact a1, by rw [e8]; exact a2, by rw [e8]; exact a3, by rw [e8]; exact a4, by rw [e8]; exact a5, by rw [e8]; exact a6, by rw [e8]; exact a7, ?_, ?_, ?_, sq_RR_c rfl (fun _ _ => rfl) (fun k h1 h2 => h k (by omega) (by omega)) a11⟩
  · rw [h (8 + 1) (by omega) (by omega)]; exact a8
  · rw [h (8 + 2) (by omega) (by omega), h (8 + 3) (by omega) (by omega), h (8 + 4) (by omega) (by omega), h (8 + 5) (by omega) (by omega)]; exact a9
  · rw [h (8 + 6) (by omega) (by omega), h (8 + 7) (by omega) (by omega), h (8 + 8) (by omega) (by omega)]; exact a10
theorem cz_wl {s : am_S} {m : Nat → Int32} {v : Nat} (hv : v < 6) (R : sq_R s.1 8 m) (ok : sq_Ok m) (fc : sq_fc (s.1 23) m v) : ∀ (l r f : Nat), r + l = sq_rn m → l < f → F_X7_deedFor_17_23_b2 f (m (24 + 5 * v)) (Int32.ofNat r) s = some (sq_wl m v l r, s) := by
  have okR := ok.2.2.2.2.2.2.2
  obtain ⟨h1, h2⟩ := sq_rn_ok okR
  obtain ⟨c1, c2, c3, c4⟩ : sq_RR s.1 17 m := R.2.2.2.2.2.2.2.2.2.2.2
  obtain ⟨kd, hkd, ek⟩ := (ok.2.2.2.2.2.1 v hv).1
  intro l
  induction l with
  | zero =>
    intro r f hl hf
    obtain ⟨f, rfl⟩ : ∃ g, f = g + 1 := ⟨f - 1, by omega⟩
    rw [F_X7_deedFor_17_23_b2, c1, h2, if_pos ((ix_le (by omega) (by omega)).mpr (by omega))]
    rfl
  | succ l ih =>
    intro r f hl hf
    obtain ⟨f, rfl⟩ : ∃ g, f = g + 1 := ⟨f - 1, by omega⟩
    obtain ⟨g1, g2, g3⟩ := sq_en_ok okR (r := r) (by omega)
    obtain ⟨b1, b2, b3, b4⟩ := c3 r (by omega)
    have hend : sq_en m (r + 1) ≤ sq_en m (sq_rn m) := by
      have := sq_en_mono okR (sq_rn m - (r + 1)) (r + 1) (by omega)
      rwa [show r + 1 + (sq_rn m - (r + 1)) = sq_rn m by omega] at this
    have b1' : s.1 18 r = m (72 + 3 * r) := b1
    have b2' : s.1 19 r = m (72 + 3 * r + 1) := b2
    have b3' : s.1 20 r = Int32.ofNat (sq_en m r) := b3
    have b4' : s.1 21 r = Int32.ofNat (sq_en m (r + 1)) := b4
    have hno := ih (r + 1) f (by omega) (by omega)
    rw [F_X7_deedFor_17_23_b2, c1, h2, if_neg (by rw [ix_le (by omega) (by omega)]; omega), if_pos ((ix_in (by omega)).mpr (by omega))]
    simp (disch := omega) only [ix_nat]
    rw [b1', ek, cz_under hkd, ix_b1, sq_wl, ← ek]
    dsimp only
    simp only [F_X7_deedFor_17_23_b39, ix_addL]
    have hh : F_X7_holds_17_23 (Int32.ofNat r) s = some (sq_so m v (sq_en m r) (sq_en m (r + 1)), s) := by
      unfold F_X7_holds_17_23 sq_so
      rw [if_pos ((ix_in (by omega)).mpr (by omega)), ix_nat (by omega), b3']
      rcases (okR.2 r (by omega)).2.2.2.2 with h4 | h4
      · rw [F_X7_holds_17_23_b16, if_pos ((ix_in (by omega)).mpr (by omega)), ix_nat (by omega), b4', ← h4, if_pos ((ix_le (by omega) (by omega)).mpr (Nat.le_refl _)), Nat.sub_self]
        rfl
      · exact cz_so fc (by omega) b4' g1 (fun k hk => c4 k (by omega)) _ _ 0 0 [] [] 0 0 1000 h4 rfl (by omega) (fun b hb => by cases hb) (Or.inl ⟨rfl, rfl⟩) (by omega) (by omega)
    by_cases hu : m (72 + 3 * r) = 0 ∨ m (24 + 5 * v) = m (72 + 3 * r) ∨ (m (24 + 5 * v) = 3 ∧ m (72 + 3 * r) = 2) ∨ (m (24 + 5 * v) = 5 ∧ m (72 + 3 * r) = 4)
    · rw [if_pos hu, if_neg (by decide), hh, ix_b1]
      dsimp only
      rcases sq_so_01 (m := m) (v := v) (a := sq_en m r) (b := sq_en m (r + 1)) with hs | hs
      · rw [hs, if_pos rfl, if_neg (fun z => absurd z.2 (by decide))]
        exact hno
      · rw [hs, if_neg (by decide), if_pos ((ix_in (by omega)).mpr (by omega)), b2', if_pos ⟨hu, rfl⟩]
    · rw [if_neg hu, if_pos rfl, if_neg (fun z => hu z.1)]
      exact hno
theorem cz_will {s : am_S} {m : Nat → Int32} {v : Nat} (hv : v < 6) (R : sq_R s.1 8 m) (ok : sq_Ok m) : ∃ s', F_X8_willOf_8 (Int32.ofNat v) s = some (sq_will m v, s') ∧ ix_Fr (fun q => q == 23) s s' := by
  obtain ⟨s1, e1⟩ : ∃ s1, s1 = am_sI s 23 0 (m 3) := ⟨_, rfl⟩
  obtain ⟨s2, e2⟩ : ∃ s2, s2 = am_sI s1 23 1 (m (24 + 5 * v + 1)) := ⟨_, rfl⟩
  obtain ⟨s3, e3⟩ : ∃ s3, s3 = am_sI s2 23 2 (m (24 + 5 * v + 2)) := ⟨_, rfl⟩
  obtain ⟨s4, e4⟩ : ∃ s4, s4 = am_sI s3 23 3 (m (24 + 5 * v + 3)) := ⟨_, rfl⟩
  obtain ⟨s5, e5⟩ : ∃ s5, s5 = am_sI s4 23 4 (Int32.ofNat v) := ⟨_, rfl⟩
  have f1 : ix_Fr (fun q => q == 23) s s1 := by rw [e1]; exact ix_Fr.I (by rfl)
  have f2 : ix_Fr (fun q => q == 23) s s2 := f1.tr (by rw [e2]; exact ix_Fr.I (by rfl))
  have f3 : ix_Fr (fun q => q == 23) s s3 := f2.tr (by rw [e3]; exact ix_Fr.I (by rfl))
  have f4 : ix_Fr (fun q => q == 23) s s4 := f3.tr (by rw [e4]; exact ix_Fr.I (by rfl))
  have f5 : ix_Fr (fun q => q == 23) s s5 := f4.tr (by rw [e5]; exact ix_Fr.I (by rfl))
  have RR : ∀ t, ix_Fr (fun q => q == 23) s t → sq_R t.1 8 m := fun t h => sq_R_fr (fun k h1 h2 => h.1 k (by simp; omega)) R
  have fc : sq_fc (s5.1 23) m v := by
    refine ⟨?_, ?_, ?_, ?_, ?_⟩
    · rw [e5, ix_sI1, e4, ix_sI1, e3, ix_sI1, e2, ix_sI1, e1, ix_sI1]; rfl
    · rw [e5, ix_sI1, e4, ix_sI1, e3, ix_sI1, e2, ix_sI1]; rfl
    · rw [e5, ix_sI1, e4, ix_sI1, e3, ix_sI1]; rfl
    · rw [e5, ix_sI1, e4, ix_sI1]; rfl
    · rw [e5, ix_sI1]; rfl
  have hi : am_in (Int32.ofNat v) 6 := cz_inv hv
  refine ⟨s5, ?_, f5⟩
  unfold F_X8_willOf_8
  have z0 : (0 : Int32).toNatClampNeg = 0 := by decide
  have z1 : (1 : Int32).toNatClampNeg = 1 := by decide
  have z2 : (2 : Int32).toNatClampNeg = 2 := by decide
  have z3 : (3 : Int32).toNatClampNeg = 3 := by decide
  have z4 : (4 : Int32).toNatClampNeg = 4 := by decide
  simp (disch := omega) only [ix_nat, z0, z1, z2, z3, z4, if_pos hi]
  rw [if_pos (by decide), R.1, ix_b1, ← e1, if_pos (by decide), cz_pitch (RR s1 f1) hv, ix_b1, ← e2, if_pos (by decide), cz_str (RR s2 f2) hv, ix_b1, ← e3, if_pos (by decide), cz_place (RR s3 f3) hv, ix_b1, ← e4, if_pos (by decide), ix_b1, ← e5, cz_kind (RR s5 f5) hv]
  unfold F_X7_deedFor_17_23
  have h0 : F_X7_deedFor_17_23_b2 1000 (m (24 + 5 * v)) 0 s5 = _ := cz_wl hv (RR s5 f5) ok fc (sq_rn m) 0 1000 (by omega) (by have := (sq_rn_ok ok.2.2.2.2.2.2.2).1; omega)
  rw [h0]
  rfl
theorem sq_wl_N {m : Nat → Int32} {v : Nat} (ok : sq_OkR m) : ∀ l r, r + l ≤ sq_rn m → sq_N (sq_wl m v l r) 2 := by
  intro l
  induction l with
  | zero => intro r _; exact ⟨0, by omega, rfl⟩
  | succ l ih =>
    intro r h
    rw [sq_wl]
    split
    · exact (ok.2 r (by omega)).2.1
    · exact ih (r + 1) (by omega)
theorem sq_will_N {m : Nat → Int32} {v : Nat} (ok : sq_OkR m) : sq_N (sq_will m v) 2 := sq_wl_N ok _ _ (by omega)
