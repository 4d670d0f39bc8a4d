/-! LAYER 2: the whole turn in the model; the net in the class -/
theorem mz_goes {s : am_S} {a : Nat} (ok : sq_Ok (s.1 83)) (ht : sq_tn (s.1 83) < 16) (ha : a ≤ sq_cn (s.1 83)) : ∃ s', F_X12_goes_82 (Int32.ofNat a) s = some ((sq_go (s.1 83) a).2, s') ∧ s'.1 83 = (sq_go (s.1 83) a).1 ∧ ix_Fr (fun q => q == 83 || q == 86) s s' := by
  obtain ⟨hc, h0⟩ := sq_cn_ok ok
  obtain ⟨s1, i1, i2, i3⟩ := mz_drift (a := Int32.ofNat a) (sq_cn (s.1 83)) 0 1000 s ok ht (by omega) (by omega)
  have ed : s1.1 83 = sq_d (s.1 83) := i2
  have ok1 : sq_Ok (s1.1 83) := by rw [ed]; exact sq_d_ok ok ht
  have ec : sq_cn (s1.1 83) = sq_cn (s.1 83) := by rw [ed]; unfold sq_cn; rw [sq_d_n ok (by omega)]
  obtain ⟨-, h01⟩ := sq_cn_ok ok1
  have e0 : s1.1 83 (0 : Int32).toNatClampNeg = Int32.ofNat (sq_cn (s1.1 83)) := h01
  have f1 : ix_Fr (fun q => q == 83 || q == 86) s s1 := i3.wd (fun k hk => by simp at hk ⊢; exact hk.1)
  have hE : F_X12_goes_82 (Int32.ofNat a) s = F_X12_goes_82_b2 (1000 - sq_cn (s.1 83)) (Int32.ofNat a) (Int32.ofNat (0 + sq_cn (s.1 83))) s1 := i1
  obtain ⟨g, hg⟩ : ∃ g, 1000 - sq_cn (s.1 83) = g + 1 := ⟨999 - sq_cn (s.1 83), by omega⟩
  rw [hE, hg, F_X12_goes_82_b2, if_pos (by decide), e0, if_pos ((ix_le (by omega) (by omega)).mpr (by omega))]
  -- a set z of bits as h tells it
  have hfin : ∀ (z : Nat) (h : Nat → Bool), z < 64 → (∀ u, u < 6 → z.testBit u = h u) → ∃ s', F_X12_goes_82_b116 1000 (Int32.ofNat z) 0 0 s1 = some ((sq_fin (sq_wk h (sq_cn (s1.1 83)) 0 (s1.1 83) 0)).2, s') ∧ s'.1 83 = (sq_fin (sq_wk h (sq_cn (s1.1 83)) 0 (s1.1 83) 0)).1 ∧ ix_Fr (fun q => q == 83 || q == 86) s s' := by
    intro z h hz hb
    obtain ⟨s', j1, j2, j3⟩ := mz_wk hz hb (sq_cn (s1.1 83)) 0 1000 s1 0 ok1 (by omega) (by omega)
    exact ⟨s', j1, j2, f1.tr j3⟩
  have hno : ∃ s', F_X12_goes_82_b87 (Int32.ofNat a) s1 = some ((sq_fin (sq_wk (fun _ => false) (sq_cn (s1.1 83)) 0 (s1.1 83) 0)).2, s') ∧ s'.1 83 = (sq_fin (sq_wk (fun _ => false) (sq_cn (s1.1 83)) 0 (s1.1 83) 0)).1 ∧ ix_Fr (fun q => q == 83 || q == 86) s s' := by
    rw [F_X12_goes_82_b87, F_X12_goes_82_b88, if_pos rfl, F_X12_goes_82_b109]
    exact hfin 0 _ (by omega) sq_bits0
  unfold sq_go sq_ca
  rw [← ed]
  by_cases ha0 : 0 < a
  · have e1 : Int32.ofNat a - 1 = Int32.ofNat (a - 1) := ix_subL a 1 ha0
    have hv : a - 1 < 6 := by omega
    rw [if_neg (by rw [ix_leL (by omega) (by omega)]; omega), e1, mz_its4 hv, ix_b1]
    dsimp only
    by_cases hca : s1.1 83 (24 + 5 * (a - 1) + 4) = 0
    · rw [if_pos hca, if_pos ⟨ha0, hca⟩, F_X12_goes_82_b88, if_neg (by decide), e1, mz_its3 hv, ix_b1]
      dsimp only
      obtain ⟨z, y1, y2, y3, y4⟩ := mz_held (a := s1.1 83 (24 + 5 * (a - 1) + 3)) (sq_cn (s1.1 83)) 0 1000 s1 0 0 ok1 (by omega) (by omega) ⟨by omega, by omega, fun u hu => by rw [sq_bits0 u hu]; rfl⟩
      have y1' : F_X12_heldAt_82 (s1.1 83 (24 + 5 * (a - 1) + 3)) s1 = some (Int32.ofNat z, s1) := y1
      rw [y1', ix_b1, F_X12_goes_82_b109]
      refine hfin z _ y2 (fun u hu => ?_)
      unfold sq_hb
      generalize sq_il (s1.1 83) (s1.1 83 (24 + 5 * (a - 1) + 3)) (sq_cn (s1.1 83)) 0 0 = q at y3 y4
      cases q with
      | none => rw [y3 rfl]; exact sq_bits0 u hu
      | some t => exact (y4 t rfl).2.2 u hu
    · rw [if_neg hca, if_neg (fun z => hca z.2)]
      exact hno
  · rw [if_pos (by rw [ix_leL (by omega) (by omega)]; omega), if_neg (fun z => ha0 z.1)]
    exact hno
theorem sq_absd : ∀ p, p < 16 → ∀ a, a < 16 → ((1 < (if 0 ≤ (Int32.ofNat p - Int32.ofNat a) then (Int32.ofNat p - Int32.ofNat a) else 0 - (Int32.ofNat p - Int32.ofNat a))) ↔ ¬ (-1 ≤ Int32.ofNat p - Int32.ofNat a ∧ Int32.ofNat p - Int32.ofNat a ≤ 1)) := by decide +kernel
theorem cz_held {s : am_S} {m : Nat → Int32} {a : Nat} (R : sq_R s.1 8 m) (ok : sq_Ok m) (ha : a < 16) : ∀ (l v f y x : Nat), v + l = sq_cn m → l < f → sq_fl m y x → ∃ z, F_X8_heldByNetAt_8_b4 f (Int32.ofNat a) (Int32.ofNat y) (Int32.ofNat v) s = some (Int32.ofNat z, s) ∧ z < 64 ∧ (sq_il m (Int32.ofNat a) l v x = none → z = 0) ∧ (∀ t, sq_il m (Int32.ofNat a) l v x = some t → sq_fl m z t) := by
  obtain ⟨hc, h0⟩ := sq_cn_ok ok
  intro l
  induction l with
  | zero =>
    intro v f y x hl hf hfl
    obtain ⟨f, rfl⟩ : ∃ g, f = g + 1 := ⟨f - 1, by omega⟩
    refine ⟨y, ?_, hfl.1, (fun h => by cases h), fun t h => ?_⟩
    · rw [F_X8_heldByNetAt_8_b4, R.2.2.2.2.2.1, h0, if_pos ((ix_le (by omega) (by omega)).mpr (by omega))]
    · cases h; exact hfl
  | succ l ih =>
    intro v f y x hl hf hfl
    obtain ⟨f, rfl⟩ : ∃ g, f = g + 1 := ⟨f - 1, by omega⟩
    have hv : v < 6 := by omega
    obtain ⟨p, hp, ep⟩ := (ok.2.2.2.2.2.1 v hv).2.2.2.1
    have hab := sq_absd p (by omega) a ha
    have hi := ih (v + 1) f
    have hstep : F_X8_heldByNetAt_8_b4 (f + 1) (Int32.ofNat a) (Int32.ofNat y) (Int32.ofNat v) s = if m (24 + 5 * v + 4) = 0 ∧ -1 ≤ m (24 + 5 * v + 3) - Int32.ofNat a ∧ m (24 + 5 * v + 3) - Int32.ofNat a ≤ 1 then (if m (24 + 5 * v) = 4 ∧ ¬ m (24 + 5 * v + 2) < 8 then some (0, s) else if m (24 + 5 * v + 2) ≤ m 5 then F_X8_heldByNetAt_8_b4 f (Int32.ofNat a) (Int32.ofNat y) (Int32.ofNat (v + 1)) s else F_X8_heldByNetAt_8_b4 f (Int32.ofNat a) (Int32.ofNat (y ||| 2 ^ v)) (Int32.ofNat (v + 1)) s) else F_X8_heldByNetAt_8_b4 f (Int32.ofNat a) (Int32.ofNat y) (Int32.ofNat (v + 1)) s := by
      rw [F_X8_heldByNetAt_8_b4, R.2.2.2.2.2.1, h0, if_neg (by rw [ix_le (by omega) (by omega)]; omega), cz_caught R ok hv, ix_b1]
      dsimp only
      by_cases hca : m (24 + 5 * v + 4) = 0
      · rw [if_pos hca, if_pos (cz_inv hv)]
        simp (disch := omega) only [ix_nat]
        rw [cz_place R hv, ep, cz_bursts R ok hv, ix_b1]
        dsimp only
        by_cases hin : -1 ≤ Int32.ofNat p - Int32.ofNat a ∧ Int32.ofNat p - Int32.ofNat a ≤ 1
        · have hci : m (24 + 5 * v + 4) = 0 ∧ -1 ≤ Int32.ofNat p - Int32.ofNat a ∧ Int32.ofNat p - Int32.ofNat a ≤ 1 := ⟨hca, hin⟩
          rw [if_neg (fun z => (hab.mp z) hin), if_pos hci]
          by_cases hb : m (24 + 5 * v) = 4 ∧ ¬ m (24 + 5 * v + 2) < 8
          · rw [if_pos hb, if_neg (by decide), if_pos hb]
          · rw [if_neg hb, if_pos rfl, if_neg hb, if_pos (cz_inv hv), cz_str R hv, R.2.2.1, F_X8_heldByNetAt_8_b66, F_X8_heldByNetAt_8_b68, F_X8_heldByNetAt_8_b66, F_X8_heldByNetAt_8_b68, ix_addL, sq_bor y hfl.1 v hv, show Int32.ofNat y ||| 0 = Int32.ofNat y from Int32.or_zero]
        · have hci : ¬ (m (24 + 5 * v + 4) = 0 ∧ -1 ≤ Int32.ofNat p - Int32.ofNat a ∧ Int32.ofNat p - Int32.ofNat a ≤ 1) := fun z => hin z.2
          rw [if_pos (hab.mpr hin), if_neg hci, F_X8_heldByNetAt_8_b68, ix_addL]
      · have hci : ¬ (m (24 + 5 * v + 4) = 0 ∧ -1 ≤ m (24 + 5 * v + 3) - Int32.ofNat a ∧ m (24 + 5 * v + 3) - Int32.ofNat a ≤ 1) := fun z => hca z.1
        rw [if_neg hca, if_neg hci, F_X8_heldByNetAt_8_b68, ix_addL]
    rw [hstep, sq_il]
    by_cases h1 : m (24 + 5 * v + 4) = 0 ∧ -1 ≤ m (24 + 5 * v + 3) - Int32.ofNat a ∧ m (24 + 5 * v + 3) - Int32.ofNat a ≤ 1
    · rw [if_pos h1, if_pos h1]
      by_cases h2 : m (24 + 5 * v) = 4 ∧ ¬ m (24 + 5 * v + 2) < 8
      · rw [if_pos h2, if_pos h2]
        exact ⟨0, rfl, by omega, fun _ => rfl, fun t h => by cases h⟩
      · rw [if_neg h2, if_neg h2]
        obtain ⟨g1, g2⟩ := sq_bor_t y hfl.1 v hv
        obtain ⟨k1, k2⟩ := sq_bor_t x hfl.2.1 v hv
        by_cases h3 : m (24 + 5 * v + 2) ≤ m 5
        · rw [if_pos h3]
          refine hi y (x ||| 2 ^ v) (by omega) (by omega) ⟨hfl.1, k1, fun u hu => ?_⟩
          rw [k2 u hu, hfl.2.2 u hu]
          by_cases hu2 : u = v
          · subst hu2; simp [h3]
          · simp [hu2]
        · rw [if_neg h3]
          refine hi (y ||| 2 ^ v) (x ||| 2 ^ v) (by omega) (by omega) ⟨g1, k1, fun u hu => ?_⟩
          rw [k2 u hu, g2 u hu, hfl.2.2 u hu]
          by_cases hu2 : u = v
          · subst hu2; simp [h3]
          · simp [hu2]
    · rw [if_neg h1, if_neg h1]
      exact hi y x (by omega) (by omega) hfl
/-- the class's sea when a catch is written -/
theorem cz_mark {s : am_S} {m : Nat → Int32} {v : Nat} (R : sq_R s.1 8 m) (hv : v < 6) {b : Int32} (hb : b = 0 ∨ b = 1) : ∃ s', F_X8_markCaught_8 (Int32.ofNat v) b s = some s' ∧ sq_R s'.1 8 (upd m (24 + 5 * v + 4) b) ∧ ix_Fr (fun q => q == 8) s s' := by
  have e : ∀ j, j ≠ 24 + 5 * v + 4 → upd m (24 + 5 * v + 4) b j = m j := fun j hj => ix_upn hj
  have hR : sq_R (am_sI s 8 6 (Int32.ofNat (sq_cs (upd m (24 + 5 * v + 4) b)))).1 8 (upd m (24 + 5 * v + 4) b) := by
    obtain ⟨a0, a1, a2, a3, a4, a5, a6, a7, -⟩ := id R
    refine sq_R_own R (fun k hk => ix_sIn hk) (fun j hj => e j (by unfold sq_ch at hj; omega)) (fun u hu => e _ (by omega)) ?_ ?_ ?_ ?_ ?_ ?_ ?_ ?_
    · rw [ix_sI1, if_neg (by decide), e _ (by omega)]; exact a0
    · rw [ix_sI1, if_neg (by decide), e _ (by omega)]; exact a1
    · rw [ix_sI1, if_neg (by decide), e _ (by omega)]; exact a2
    · rw [ix_sI1, if_neg (by decide), e _ (by omega)]; exact a3
    · rw [ix_sI1, if_neg (by decide), e _ (by omega)]; exact a4
    · rw [ix_sI1, if_neg (by decide), e _ (by omega)]; exact a5
    · rw [ix_sI1, if_pos rfl]
    · rw [ix_sI1, if_neg (by decide), e _ (by omega)]; exact a7
  refine ⟨_, ?_, hR, ix_Fr.I (by rfl)⟩
  unfold F_X8_markCaught_8
  rcases hb with rfl | rfl
  · rw [if_pos rfl, R.2.2.2.2.2.2.1, sq_bnd _ (sq_cs_lt m) v hv, ix_b1, sq_cs_0 hv]
  · rw [if_neg (by decide), R.2.2.2.2.2.2.1, sq_bor _ (sq_cs_lt m) v hv, ix_b1, sq_cs_1 hv]
theorem cz_fin {s : am_S} {m : Nat → Int32} {w : Int32} (R : sq_R s.1 8 m) : ∃ s', ((some (am_sI s 8 3 ((s.1 8 3) + w))).bind fun s2 => ((some (am_sI s2 8 0 ((s2.1 8 0) + (1 : Int32)))).bind fun s4 => (some (w, s4)))) = some (w, s') ∧ sq_R s'.1 8 (sq_fin (m, w)).1 ∧ ix_Fr (fun q => q == 8) s s' := by
  obtain ⟨a0, a1, a2, a3, a4, a5, a6, a7, -⟩ := id R
  have hj : ∀ j, j ≠ 3 → j ≠ 4 → (sq_fin (m, w)).1 j = m j := fun j h3 h4 => by
    show upd (upd m 4 (m 4 + w)) 3 (m 3 + 1) j = m j
    rw [ix_upn h3, ix_upn h4]
  have h3 : (sq_fin (m, w)).1 3 = m 3 + 1 := rfl
  have h4 : (sq_fin (m, w)).1 4 = m 4 + w := rfl
  have ec : sq_cs (sq_fin (m, w)).1 = sq_cs m := sq_cs_c (fun u hu => hj _ (by omega) (by omega))
  refine ⟨am_sI (am_sI s 8 3 (s.1 8 3 + w)) 8 0 ((am_sI s 8 3 (s.1 8 3 + w)).1 8 0 + 1), rfl, ?_, (ix_Fr.I (by rfl)).tr (ix_Fr.I (by rfl))⟩
  refine sq_R_own R (fun k hk => by rw [ix_sIn hk, ix_sIn hk]) (fun j hj2 => hj j (by unfold sq_ch at hj2; omega) (by unfold sq_ch at hj2; omega)) (fun u hu => hj _ (by omega) (by omega)) ?_ ?_ ?_ ?_ ?_ ?_ ?_ ?_
  · rw [ix_sI1, if_pos rfl, ix_sI1, if_neg (by decide), a0, h3]
  · rw [ix_sI1, if_neg (by decide), ix_sI1, if_neg (by decide), hj 2 (by omega) (by omega)]; exact a1
  · rw [ix_sI1, if_neg (by decide), ix_sI1, if_neg (by decide), hj 5 (by omega) (by omega)]; exact a2
  · rw [ix_sI1, if_neg (by decide), ix_sI1, if_pos rfl, a3, h4]
  · rw [ix_sI1, if_neg (by decide), ix_sI1, if_neg (by decide), hj 7 (by omega) (by omega)]; exact a4
  · rw [ix_sI1, if_neg (by decide), ix_sI1, if_neg (by decide), hj 0 (by omega) (by omega)]; exact a5
  · rw [ix_sI1, if_neg (by decide), ix_sI1, if_neg (by decide), ec]; exact a6
  · rw [ix_sI1, if_neg (by decide), ix_sI1, if_neg (by decide), hj 6 (by omega) (by omega)]; exact a7
theorem cz_wk {x : Nat} {h : Nat → Bool} (hx : x < 64) (hh : ∀ u, u < 6 → x.testBit u = h u) : ∀ (l v f : Nat) (s : am_S) (m : Nat → Int32) (w : Int32), sq_R s.1 8 m → sq_Ok m → v + l = sq_cn m → l < f → ∃ s', F_X8_cast_8_b42 f (Int32.ofNat x) w (Int32.ofNat v) s = some ((sq_fin (sq_wk h l v m w)).2, s') ∧ sq_R s'.1 8 (sq_fin (sq_wk h l v m w)).1 ∧ ix_Fr (fun q => q == 8 || q == 23) s s' := by
  intro l
  induction l with
  | zero =>
    intro v f s m w R ok hl hf
    obtain ⟨f, rfl⟩ : ∃ g, f = g + 1 := ⟨f - 1, by omega⟩
    obtain ⟨hc, h0⟩ := sq_cn_ok ok
    rw [F_X8_cast_8_b42, R.2.2.2.2.2.1, h0, if_pos ((ix_le (by omega) (by omega)).mpr (by omega))]
    obtain ⟨s', i1, i2, i3⟩ := cz_fin (s := s) (m := m) (w := w) R
    exact ⟨s', i1, i2, i3.wd (fun k hk => by simp at hk ⊢; exact hk.1)⟩
  | succ l ih =>
    intro v f s m w R ok hl hf
    obtain ⟨f, rfl⟩ : ∃ g, f = g + 1 := ⟨f - 1, by omega⟩
    obtain ⟨hc, h0⟩ := sq_cn_ok ok
    have hv : v < 6 := by omega
    have hhv := hh v hv
    rw [F_X8_cast_8_b42, R.2.2.2.2.2.1, h0, if_neg (by rw [ix_le (by omega) (by omega)]; omega), sq_bit x hx v hv, sq_wk, hhv]
    by_cases hb : h v = true
    · rw [if_pos hb, if_pos rfl, if_pos hb]
      have env : (Int32.ofNat v).toNatClampNeg = v := ix_nat (by omega)
      simp only [env]
      obtain ⟨s1, d1, d2⟩ := cz_will hv R ok
      have R1 : sq_R s1.1 8 m := sq_R_fr (fun k h1 h2 => d2.1 k (by simp; omega)) R
      obtain ⟨k, hk, ek, hth⟩ := cz_thing R1 ok hv
      rw [d1, ix_b1]
      dsimp only
      rw [hth, ix_b1, if_pos (cz_inv hv)]
      dsimp only
      rw [cz_str R1 hv]
      have hN := (ok.2.2.2.2.2.1 v hv).2.2.1
      -- behind the price
      have hW : ∀ t : am_S, F_X8_worthOf (sq_will m v) (sq_pr (m (24 + 5 * v)) (m (24 + 5 * v + 2))) t = some (sq_pw m v, t) := by
        intro t
        unfold F_X8_worthOf sq_pw
        repeat' split
        all_goals rfl
      have hfin : ∃ s', (if sq_will m v = 1 then F_X8_cast_8_b107 (F_X8_cast_8_b42 f) (Int32.ofNat x) (w + sq_pw m v) (Int32.ofNat v) 0 (Int32.ofNat v) s1 else F_X8_cast_8_b107 (F_X8_cast_8_b42 f) (Int32.ofNat x) (w + sq_pw m v) (Int32.ofNat v) 1 (Int32.ofNat v) s1) = some ((sq_fin (sq_wk h l (v + 1) (sq_c1 m v) (w + sq_pw m v))).2, s') ∧ sq_R s'.1 8 (sq_fin (sq_wk h l (v + 1) (sq_c1 m v) (w + sq_pw m v))).1 ∧ ix_Fr (fun q => q == 8 || q == 23) s s' := by
        have hgo : ∀ b : Int32, (b = 0 ∨ b = 1) → sq_c1 m v = upd m (24 + 5 * v + 4) b → ∃ s', F_X8_cast_8_b107 (F_X8_cast_8_b42 f) (Int32.ofNat x) (w + sq_pw m v) (Int32.ofNat v) b (Int32.ofNat v) s1 = some ((sq_fin (sq_wk h l (v + 1) (sq_c1 m v) (w + sq_pw m v))).2, s') ∧ sq_R s'.1 8 (sq_fin (sq_wk h l (v + 1) (sq_c1 m v) (w + sq_pw m v))).1 ∧ ix_Fr (fun q => q == 8 || q == 23) s s' := by
          intro b hb01 ec
          obtain ⟨s2, m1, m2, m3⟩ := cz_mark R1 hv hb01
          rw [F_X8_cast_8_b107, m1, ix_b1, F_X8_cast_8_b110, ix_addL]
          rw [← ec] at m2
          have ok2 := sq_c1_ok ok (v := v) (by omega)
          have ecn : sq_cn (sq_c1 m v) = sq_cn m := by unfold sq_cn; rw [sq_c1_n (by omega)]
          obtain ⟨s', i1, i2, i3⟩ := ih (v + 1) f s2 (sq_c1 m v) (w + sq_pw m v) m2 ok2 (by rw [ecn]; omega) (by omega)
          refine ⟨s', i1, i2, ?_⟩
          exact ((d2.wd (fun k hk => by simp at hk ⊢; exact hk.2)).tr (m3.wd (fun k hk => by simp at hk ⊢; exact hk.1))).tr i3
        by_cases hw : sq_will m v = 1
        · rw [if_pos hw]; exact hgo 0 (Or.inl rfl) (by unfold sq_c1; rw [if_pos hw])
        · rw [if_neg hw]; exact hgo 1 (Or.inr rfl) (by unfold sq_c1; rw [if_neg hw])
      rw [ek] at hW
      rcases sq_six hk with rfl | rfl | rfl | rfl | rfl | rfl
      · rw [if_pos rfl, cz_p0, ix_b1]
        dsimp only
        have hW' := hW s1
        simp only [show Int32.ofNat 0 = 0 from rfl] at hW'
        rw [hW', ix_b1]; exact hfin
      · rw [if_neg (by decide), if_pos rfl, cz_p1, ix_b1]
        dsimp only
        have hW' := hW s1
        simp only [show Int32.ofNat 1 = 1 from rfl] at hW'
        rw [hW', ix_b1]; exact hfin
      · rw [if_neg (by decide), if_neg (by decide), if_pos rfl, cz_p2 hN, ix_b1]
        dsimp only
        have hW' := hW s1
        simp only [show Int32.ofNat 2 = 2 from rfl] at hW'
        rw [hW', ix_b1]; exact hfin
      · rw [if_neg (by decide), if_neg (by decide), if_neg (by decide), if_pos rfl, cz_p3 hN, ix_b1]
        dsimp only
        have hW' := hW s1
        simp only [show Int32.ofNat 3 = 3 from rfl] at hW'
        rw [hW', ix_b1]; exact hfin
      · rw [if_neg (by decide), if_neg (by decide), if_neg (by decide), if_neg (by decide), if_pos rfl, cz_p4, ix_b1]
        dsimp only
        have hW' := hW s1
        simp only [show Int32.ofNat 4 = 4 from rfl] at hW'
        rw [hW', ix_b1]; exact hfin
      · rw [if_neg (by decide), if_neg (by decide), if_neg (by decide), if_neg (by decide), if_neg (by decide), cz_p5, ix_b1]
        dsimp only
        have hW' := hW s1
        simp only [show Int32.ofNat 5 = 5 from rfl] at hW'
        rw [hW', ix_b1]; exact hfin
    · rw [if_neg hb, if_neg (by decide), if_neg hb, F_X8_cast_8_b110, ix_addL]
      exact ih (v + 1) f s m w R ok (by omega) (by omega)
