/-! LAYER 2: span, liar agree (written by hand) -/
theorem sq_ftl_t {m : Nat → Int32} {kd p but : Int32} : ∀ (l r : Nat), sq_ftl m kd p but l r = true ↔ ∀ u, r ≤ u → u < r + l → Int32.ofNat u = but ∨ sq_rb m kd p u = true := by
  intro l
  induction l with
  | zero => intro r; simp only [sq_ftl, true_iff]; intro u h1 h2; omega
  | succ l ih =>
    intro r
    rw [sq_ftl, Bool.and_eq_true, Bool.or_eq_true, decide_eq_true_eq, ih (r + 1)]
    constructor
    · rintro ⟨h1, h2⟩ u h3 h4
      by_cases hu : u = r
      · rw [hu]; exact h1
      · exact h2 u (by omega) (by omega)
    · intro h
      exact ⟨h r (by omega) (by omega), fun u h1 h2 => h u (by omega) (by omega)⟩
theorem sq_fq0 {m : Nat → Int32} {q : Nat} (ok : sq_Ok m) : sq_fq m (-1) q = true ↔ sq_bq m q = 0 := by
  have hre := (sq_re_ok ok).1
  unfold sq_fq
  rw [sq_ftl_t]
  constructor
  · intro h
    refine sq_ext6 sq_br_lt (by omega) (fun v hv => ?_)
    show (sq_br m (sq_kq q) (sq_plq q)).testBit v = _
    rw [sq_br_t hv, sq_bits0 v hv]
    by_cases h1 : v < sq_re m
    · have h2 : sq_rb m (sq_kq q) (sq_plq q) v = true := by
        rcases h v (by omega) (by omega) with z | z
        · have : ∀ v, v < 6 → ¬ Int32.ofNat v = -1 := by decide
          exact absurd z (this v hv)
        · exact z
      rw [h2]; simp
    · rw [decide_eq_false h1, Bool.false_and]
  · intro h u h1 h2
    have h3 := sq_br_t (m := m) (kd := sq_kq q) (p := sq_plq q) (u := u) (by omega)
    unfold sq_bq at h
    rw [h, sq_bits0 u (by omega), decide_eq_true (show u < sq_re m by omega), Bool.true_and] at h3
    right
    cases hh : sq_rb m (sq_kq q) (sq_plq q) u with
    | true => rfl
    | false => rw [hh] at h3; cases h3
theorem sq_fq1 {m : Nat → Int32} {q r : Nat} (ok : sq_Ok m) (hr : r < sq_re m) (hb : sq_bq m q ≠ 0) : sq_fq m (Int32.ofNat r) q = true ↔ sq_bq m q = 2 ^ r := by
  have hre := (sq_re_ok ok).1
  unfold sq_fq
  rw [sq_ftl_t]
  have hp : ∀ r, r < 6 → 2 ^ r < 64 ∧ ∀ v, v < 6 → (2 ^ r).testBit v = decide (v = r) := by decide
  constructor
  · intro h
    have g : ∀ v, v < 6 → v ≠ r → (sq_bq m q).testBit v = false := by
      intro v hv hvr
      unfold sq_bq
      rw [sq_br_t hv]
      by_cases h1 : v < sq_re m
      · have h2 : sq_rb m (sq_kq q) (sq_plq q) v = true := by
          rcases h v (by omega) (by omega) with z | z
          · rw [ix_eq (by omega) (by omega)] at z; exact absurd z hvr
          · exact z
        rw [h2]; simp
      · rw [decide_eq_false h1, Bool.false_and]
    have g2 : (sq_bq m q).testBit r = true := by
      cases hh : (sq_bq m q).testBit r with
      | true => rfl
      | false =>
        exfalso
        apply hb
        refine sq_ext6 sq_br_lt (by omega) (fun v hv => ?_)
        rw [sq_bits0 v hv]
        by_cases hvr : v = r
        · rw [hvr]; exact hh
        · exact g v hv hvr
    refine sq_ext6 sq_br_lt (hp r (by omega)).1 (fun v hv => ?_)
    rw [(hp r (by omega)).2 v hv]
    by_cases hvr : v = r
    · rw [hvr, decide_eq_true rfl]; exact g2
    · rw [decide_eq_false hvr]; exact g v hv hvr
  · intro h u h1 h2
    have h3 := sq_br_t (m := m) (kd := sq_kq q) (p := sq_plq q) (u := u) (by omega)
    unfold sq_bq at h
    by_cases hur : u = r
    · left; rw [hur]
    · rw [h, (hp r (by omega)).2 u (by omega), decide_eq_false hur, decide_eq_true (show u < sq_re m by omega), Bool.true_and] at h3
      right
      cases hh : sq_rb m (sq_kq q) (sq_plq q) u with
      | true => rfl
      | false => rw [hh] at h3; cases h3
theorem sq_ff_le {m : Nat → Int32} {but : Int32} : ∀ (l q : Nat) (a : Nat × Int32 × Int32), a.1 ≤ (sq_ff m but l q a).1 ∧ (a.1 ≠ 0 → (sq_ff m but l q a).2 = a.2) := by
  intro l
  induction l with
  | zero => intro q a; exact ⟨Nat.le_refl _, fun _ => rfl⟩
  | succ l ih =>
    intro q a
    rw [sq_ff]
    by_cases h : sq_fq m but q = true
    · rw [if_pos h]
      obtain ⟨h1, h2⟩ := ih (q + 1) (a.1 + 1, (if a.1 = 0 then sq_kq q else a.2.1), (if a.1 = 0 then sq_plq q else a.2.2))
      refine ⟨?_, fun h0 => ?_⟩
      · have : a.1 + 1 ≤ _ := h1
        omega
      · have h3 : (sq_ff m but l (q + 1) (a.1 + 1, (if a.1 = 0 then sq_kq q else a.2.1), (if a.1 = 0 then sq_plq q else a.2.2))).2 = ((if a.1 = 0 then sq_kq q else a.2.1), (if a.1 = 0 then sq_plq q else a.2.2)) := h2 (by show a.1 + 1 ≠ 0; omega)
        rw [h3, if_neg h0, if_neg h0]
    · rw [if_neg h]
      exact ih (q + 1) a
/-- none fits, or one -/
theorem sq_ff_0 {m : Nat → Int32} {but : Int32} : ∀ (l q : Nat) (k p : Int32), (sq_ff m but l q (0, k, p)).1 = 0 ↔ ∀ u, q ≤ u → u < q + l → ¬ sq_fq m but u = true := by
  intro l
  induction l with
  | zero => intro q k p; simp only [sq_ff, true_iff]; intro u h1 h2; omega
  | succ l ih =>
    intro q k p
    rw [sq_ff]
    by_cases h : sq_fq m but q = true
    · rw [if_pos h]
      have h1 : 0 + 1 ≤ (sq_ff m but l (q + 1) (0 + 1, (if (0 : Nat) = 0 then sq_kq q else k), (if (0 : Nat) = 0 then sq_plq q else p))).1 := (sq_ff_le l (q + 1) (0 + 1, (if (0 : Nat) = 0 then sq_kq q else k), (if (0 : Nat) = 0 then sq_plq q else p))).1
      constructor
      · intro h2
        have : (sq_ff m but l (q + 1) (0 + 1, (if (0 : Nat) = 0 then sq_kq q else k), (if (0 : Nat) = 0 then sq_plq q else p))).1 = 0 := h2
        omega
      · intro h2; exact absurd h (h2 q (by omega) (by omega))
    · rw [if_neg h, ih (q + 1) k p]
      constructor
      · intro h1 u h2 h3
        by_cases hu : u = q
        · rw [hu]; exact h
        · exact h1 u (by omega) (by omega)
      · intro h1 u h2 h3; exact h1 u (by omega) (by omega)
theorem cz_hm {s : am_S} {m : Nat → Int32} (R : sq_R s.1 8 m) (ok : sq_Ok m) : ∀ (l q f : Nat) (a : Nat × Int32 × Int32), q + l = 80 → l < f → F_X3_howManyFit_50_b4 f (Int32.ofNat a.1) (Int32.ofNat q) s = some (Int32.ofNat (sq_ff m (-1) l q a).1, s) := by
  intro l
  induction l with
  | zero =>
    intro q f a hl hf
    obtain ⟨f, rfl⟩ : ∃ g, f = g + 1 := ⟨f - 1, by omega⟩
    rw [F_X3_howManyFit_50_b4, if_pos (by rw [ix_Lle (by omega) (by omega)]; omega)]
    rfl
  | succ l ih =>
    intro q f a hl hf
    obtain ⟨f, rfl⟩ : ∃ g, f = g + 1 := ⟨f - 1, by omega⟩
    have hq : sq_bq m q < 64 := sq_br_lt
    rw [F_X3_howManyFit_50_b4, if_neg (by rw [ix_Lle (by omega) (by omega)]; omega), cz_bb R ok (by omega), ix_b1, sq_ff]
    dsimp only
    rw [F_X3_howManyFit_50_b21, F_X3_howManyFit_50_b21]
    by_cases h : sq_fq m (-1) q = true
    · rw [if_pos h, if_pos (show Int32.ofNat (sq_bq m q) = (0 : Int32) by rw [(sq_fq0 ok).mp h]; rfl), ix_addL, ix_addL]
      exact ih (q + 1) f (a.1 + 1, _, _) (by omega) (by omega)
    · rw [if_neg h, if_neg (show ¬ Int32.ofNat (sq_bq m q) = (0 : Int32) by rw [ix_eqL (by omega) (by omega)]; exact fun z => h ((sq_fq0 ok).mpr z)), ix_addL]
      exact ih (q + 1) f a (by omega) (by omega)
theorem cz_lf {s : am_S} {m : Nat → Int32} {k p : Int32} (R : sq_R s.1 8 m) (ok : sq_Ok m) : ∀ (l q f : Nat), q + l = 80 → l < f → ((sq_ff m (-1) l q (0, k, p)).1 = 0 ∧ F_X3_leastThatFits_50_b2 f (Int32.ofNat q) s = some (-3, s)) ∨ ((sq_ff m (-1) l q (0, k, p)).1 ≠ 0 ∧ ∃ v, v < 80 ∧ F_X3_leastThatFits_50_b2 f (Int32.ofNat q) s = some (Int32.ofNat v, s) ∧ (sq_ff m (-1) l q (0, k, p)).2.1 = sq_kq v ∧ (sq_ff m (-1) l q (0, k, p)).2.2 = sq_plq v) := by
  intro l
  induction l with
  | zero =>
    intro q f hl hf
    obtain ⟨f, rfl⟩ : ∃ g, f = g + 1 := ⟨f - 1, by omega⟩
    left
    rw [F_X3_leastThatFits_50_b2, if_pos (by rw [ix_Lle (by omega) (by omega)]; omega)]
    exact ⟨rfl, rfl⟩
  | succ l ih =>
    intro q f hl hf
    obtain ⟨f, rfl⟩ : ∃ g, f = g + 1 := ⟨f - 1, by omega⟩
    have hq : sq_bq m q < 64 := sq_br_lt
    rw [F_X3_leastThatFits_50_b2, if_neg (by rw [ix_Lle (by omega) (by omega)]; omega), cz_bb R ok (by omega), ix_b1, sq_ff]
    dsimp only
    by_cases h : sq_fq m (-1) q = true
    · right
      rw [if_pos h, if_pos (show Int32.ofNat (sq_bq m q) = (0 : Int32) by rw [(sq_fq0 ok).mp h]; rfl)]
      obtain ⟨h1, h2⟩ := sq_ff_le (m := m) (but := -1) l (q + 1) (0 + 1, (if (0 : Nat) = 0 then sq_kq q else k), (if (0 : Nat) = 0 then sq_plq q else p))
      have h1' : 0 + 1 ≤ (sq_ff m (-1) l (q + 1) (0 + 1, (if (0 : Nat) = 0 then sq_kq q else k), (if (0 : Nat) = 0 then sq_plq q else p))).1 := h1
      have h2' : (sq_ff m (-1) l (q + 1) (0 + 1, (if (0 : Nat) = 0 then sq_kq q else k), (if (0 : Nat) = 0 then sq_plq q else p))).2 = (sq_kq q, sq_plq q) := h2 (by show 0 + 1 ≠ 0; omega)
      refine ⟨by omega, q, by omega, rfl, ?_, ?_⟩
      · rw [h2']
      · rw [h2']
    · rw [if_neg h, if_neg (show ¬ Int32.ofNat (sq_bq m q) = (0 : Int32) by rw [ix_eqL (by omega) (by omega)]; exact fun z => h ((sq_fq0 ok).mpr z)), ix_addL]
      exact ih (q + 1) f (by omega) (by omega)
theorem jz_ft {s s2 : am_S} (j : jz_J s) (f : ix_F2 (fun k j => k == 82 && (16 ≤ j && j < 19)) s s2) : jz_J s2 := by
  have h83 : s2.1 83 = s.1 83 := funext fun q => f.1 83 q (by simp)
  refine jz_keep j (f.wd (fun k j hk => ?_)) ⟨by rw [h83]; exact j.1.1, by rw [h83]; exact sq_R_fr (fun k h1 h2 => funext fun q => f.1 k q (by simp; omega)) j.1.2⟩
  unfold sq_pS at hk; simp at hk ⊢; omega
theorem mz_ff {s : am_S} {but : Int32} {m : Nat → Int32} (ok : sq_Ok m) (h83 : s.1 83 = m) : ∃ s', F_X12_findFits_82 but s = some s' ∧ s'.1 82 16 = Int32.ofNat (sq_ff m but 80 0 (0, s.1 82 17, s.1 82 18)).1 ∧ s'.1 82 17 = (sq_ff m but 80 0 (0, s.1 82 17, s.1 82 18)).2.1 ∧ s'.1 82 18 = (sq_ff m but 80 0 (0, s.1 82 17, s.1 82 18)).2.2 ∧ (sq_ff m but 80 0 (0, s.1 82 17, s.1 82 18)).1 ≤ 80 ∧ ix_F2 (fun k j => k == 82 && (16 ≤ j && j < 19)) s s' := by
  obtain ⟨s', i1, i2, i3, i4, i5, i6⟩ := mz_ffL (but := but) ok 80 0 1000 (am_sI s 82 16 0) (0, s.1 82 17, s.1 82 18) (by rw [ix_83 (by decide)]; exact h83) (by omega) (by omega) (by show 0 ≤ 0; omega) ix_sIs (ix_sIj (by omega)) (ix_sIj (by omega))
  refine ⟨s', ?_, i2, i3, i4, i5, (ix_F2.I (by rfl)).tr i6⟩
  rw [F_X12_findFits_82, ix_b1]
  exact i1
theorem ag_span {a : Int32} : jz_A (F_X11_span_0 a) (F_X12_span_82 a) := by
  intro s j
  obtain ⟨ok, R⟩ := j.1
  by_cases h1 : (0 : Int32) ≤ a ∧ a ≤ 2
  rotate_left
  · exact jz_A0 (v := -1) j (by simp only [F_X11_span_0, ix_cw, ix_wi_n h1, ix_b1, ix_10, ix_00, if_true, if_false]) (by simp only [F_X12_span_82, mz_in0x2, ix_wi_n h1, ix_b1, ix_10, ix_00, if_true, if_false])
  obtain ⟨s2, i1, i2, i3, i4, i5, i6⟩ := mz_ff (s := s) (but := -1) ok rfl
  have jj := jz_ft j i6
  rw [F_X11_span_0, ix_cw, ix_b1, ix_wi_p h1]
  dsimp only
  rw [if_neg (show ¬ (1 : Int32) = 0 by decide)]
  by_cases h0 : a = 0
  · refine ⟨Int32.ofNat (sq_ff (s.1 83) (-1) 80 0 (0, s.1 82 17, s.1 82 18)).1, s, s2, ?_, ?_, jj⟩
    · rw [if_pos h0]
      have hh : F_X3_howManyFit_50 s = _ := cz_hm R ok 80 0 1000 (0, s.1 82 17, s.1 82 18) (by omega) (by omega)
      rw [hh, ix_b1]
    · simp only [F_X12_span_82, mz_in0x2, ix_wi_p h1, ix_b1, ix_10, if_false]
      rw [i1, ix_b1, if_pos h0, i2]
  · rw [if_neg h0]
    have hl := cz_lf (s := s) (k := s.1 82 17) (p := s.1 82 18) R ok 80 0 1000 (by omega) (by omega)
    rcases hl with ⟨g1, g2⟩ | ⟨g1, v, hv, g2, g3, g4⟩
    · have hh : F_X3_leastThatFits_50 s = _ := g2
      refine ⟨-3, s, s2, ?_, ?_, jj⟩
      · rw [hh, ix_b1]; rfl
      · simp only [F_X12_span_82, mz_in0x2, ix_wi_p h1, ix_b1, ix_10, if_false]
        rw [i1, ix_b1, if_neg h0, i2, g1]; rfl
    · have hh : F_X3_leastThatFits_50 s = _ := g2
      obtain ⟨e1, e2, e3⟩ := sq_str v hv
      have hv3 : ¬ Int32.ofNat v = (-3 : Int32) := by
        have : ∀ v, v < 80 → ¬ Int32.ofNat v = -3 := by decide
        exact this v hv
      have hn0 : ¬ Int32.ofNat (sq_ff (s.1 83) (-1) 80 0 (0, s.1 82 17, s.1 82 18)).1 = (0 : Int32) := by rw [ix_eqL (by omega) (by omega)]; exact g1
      by_cases ha : a = 1
      · refine ⟨sq_kq v, s, s2, ?_, ?_, jj⟩
        · rw [hh, ix_b1]
          dsimp only
          rw [if_neg hv3, if_pos ha, F_X3_kindOfStranger, e1, ix_b1]
        · simp only [F_X12_span_82, mz_in0x2, ix_wi_p h1, ix_b1, ix_10, if_false]
          rw [i1, ix_b1, if_neg h0, i2, if_neg hn0, if_pos ha, i3, g3]
      · refine ⟨sq_plq v, s, s2, ?_, ?_, jj⟩
        · rw [hh, ix_b1]
          dsimp only
          rw [if_neg hv3, if_neg ha, F_X3_placeOfStranger, e3, ix_b1]
        · simp only [F_X12_span_82, mz_in0x2, ix_wi_p h1, ix_b1, ix_10, if_false]
          rw [i1, ix_b1, if_neg h0, i2, if_neg hn0, if_neg ha, i4, g4]
/-! the liar -/
def sq_b1 (x : Int32) : Int32 := x - ((am_ushr x (1 : Int32)) &&& (1431655765 : Int32))
def sq_b2 (v1 : Int32) : Int32 := (v1 &&& (858993459 : Int32)) + ((am_ushr v1 (2 : Int32)) &&& (858993459 : Int32))
def sq_b3 (v3 : Int32) : Int32 := (v3 + (am_ushr v3 (4 : Int32))) &&& (252645135 : Int32)
def sq_b4 (v5 : Int32) : Int32 := (v5 + (am_ushr v5 (8 : Int32))) + (am_ushr (v5 + (am_ushr v5 (8 : Int32))) (16 : Int32))
def sq_bc (x : Int32) : Int32 := sq_b4 (sq_b3 (sq_b2 (sq_b1 x))) &&& 63
theorem cz_bc {x : Int32} {s : am_S} : F_J6_bitCount_0f7a4 x s = some (sq_bc x, s) := rfl
def sq_pc (x : Nat) : Nat := (if x.testBit 0 = true then 1 else 0) + (if x.testBit 1 = true then 1 else 0) + (if x.testBit 2 = true then 1 else 0) + (if x.testBit 3 = true then 1 else 0) + (if x.testBit 4 = true then 1 else 0) + (if x.testBit 5 = true then 1 else 0)
theorem sq_bc_t : ∀ x, x < 64 → sq_bc (Int32.ofNat x) = Int32.ofNat (sq_pc x) ∧ sq_pc x ≤ 6 := by decide +kernel
theorem sq_pc1 : ∀ x, x < 64 → (sq_pc x = 1 ↔ ∃ r, r < 6 ∧ x = 2 ^ r) := by
  have h : ∀ x, x < 64 → (sq_pc x = 1 ↔ (x = 2 ^ 0 ∨ x = 2 ^ 1 ∨ x = 2 ^ 2 ∨ x = 2 ^ 3 ∨ x = 2 ^ 4 ∨ x = 2 ^ 5)) := by decide +kernel
  intro x hx
  rw [h x hx]
  constructor
  · rintro (z | z | z | z | z | z)
    · exact ⟨0, by omega, z⟩
    · exact ⟨1, by omega, z⟩
    · exact ⟨2, by omega, z⟩
    · exact ⟨3, by omega, z⟩
    · exact ⟨4, by omega, z⟩
    · exact ⟨5, by omega, z⟩
  · rintro ⟨r, hr, z⟩
    rcases sq_six (k := r) (by omega) with rfl | rfl | rfl | rfl | rfl | rfl
    · exact Or.inl z
    · exact Or.inr (Or.inl z)
    · exact Or.inr (Or.inr (Or.inl z))
    · exact Or.inr (Or.inr (Or.inr (Or.inl z)))
    · exact Or.inr (Or.inr (Or.inr (Or.inr (Or.inl z))))
    · exact Or.inr (Or.inr (Or.inr (Or.inr (Or.inr z))))
theorem sq_pwb : ∀ r, r < 6 → 2 ^ r < 64 ∧ ∀ v, v < 6 → (2 ^ r).testBit v = decide (v = r) := by decide
theorem cz_ll {s : am_S} {m : Nat → Int32} (R : sq_R s.1 8 m) (ok : sq_Ok m) : ∀ (l q f a : Nat), q + l = 80 → l < f → a < 64 → (((∃ u, q ≤ u ∧ u < 80 ∧ sq_bq m u = 0) ∧ F_X3_leastLiar_50_b4 f (Int32.ofNat a) (Int32.ofNat q) s = some (-3, s)) ∨ ((∀ u, q ≤ u → u < 80 → sq_bq m u ≠ 0) ∧ ∃ a', a' < 64 ∧ F_X3_leastLiar_50_b4 f (Int32.ofNat a) (Int32.ofNat q) s = some (sq_lo a' 6 0, s) ∧ ∀ v, v < 6 → (a'.testBit v = true ↔ a.testBit v = true ∨ ∃ u, q ≤ u ∧ u < 80 ∧ sq_bq m u = 2 ^ v))) := by
  intro l
  induction l with
  | zero =>
    intro q f a hl hf ha
    obtain ⟨f, rfl⟩ : ∃ g, f = g + 1 := ⟨f - 1, by omega⟩
    right
    refine ⟨fun u h1 h2 => by omega, a, ha, ?_, fun v hv => ⟨Or.inl, fun h => ?_⟩⟩
    · have hh : F_X11_leastOf (Int32.ofNat a) s = _ := cz_lo ha 6 0 1000 (by omega) (by omega)
      rw [F_X3_leastLiar_50_b4, if_pos (by rw [ix_Lle (by omega) (by omega)]; omega), hh, ix_b1]
    · rcases h with h | ⟨u, h1, h2, -⟩
      · exact h
      · omega
  | succ l ih =>
    intro q f a hl hf ha
    obtain ⟨f, rfl⟩ : ∃ g, f = g + 1 := ⟨f - 1, by omega⟩
    have hq : sq_bq m q < 64 := sq_br_lt
    obtain ⟨o1, o2⟩ := sq_or64 a ha (sq_bq m q) hq
    obtain ⟨p1, p2⟩ := sq_bc_t (sq_bq m q) hq
    rw [F_X3_leastLiar_50_b4, if_neg (by rw [ix_Lle (by omega) (by omega)]; omega), cz_bb R ok (by omega), ix_b1]
    dsimp only
    by_cases h : sq_bq m q = 0
    · left
      rw [if_pos (show Int32.ofNat (sq_bq m q) = (0 : Int32) by rw [h]; rfl)]
      exact ⟨⟨q, by omega, by omega, h⟩, rfl⟩
    · rw [if_neg (show ¬ Int32.ofNat (sq_bq m q) = (0 : Int32) by rw [ix_eqL (by omega) (by omega)]; exact h), cz_bc, ix_b1, p1]
      dsimp only
      rw [F_X3_leastLiar_50_b35, F_X3_leastLiar_50_b35, ix_addL, o1]
      by_cases h1 : sq_pc (sq_bq m q) = 1
      · rw [if_pos (show Int32.ofNat (sq_pc (sq_bq m q)) = (1 : Int32) by rw [h1]; rfl)]
        obtain ⟨r, hr, hbr⟩ := (sq_pc1 _ hq).mp h1
        rcases ih (q + 1) f _ (by omega) (by omega) o2 with ⟨⟨u, u1, u2, u3⟩, u4⟩ | ⟨u1, a', u2, u3, u4⟩
        · left; exact ⟨⟨u, by omega, u2, u3⟩, u4⟩
        · right
          refine ⟨fun u w1 w2 => ?_, a', u2, u3, fun v hv => ?_⟩
          · by_cases hu : u = q
            · rw [hu]; exact h
            · exact u1 u (by omega) w2
          · rw [u4 v hv, Nat.testBit_or, Bool.or_eq_true, hbr, (sq_pwb r hr).2 v hv, decide_eq_true_eq]
            constructor
            · rintro ((z | z) | ⟨u, z1, z2, z3⟩)
              · exact Or.inl z
              · exact Or.inr ⟨q, by omega, by omega, by rw [z]; exact hbr⟩
              · exact Or.inr ⟨u, by omega, z2, z3⟩
            · rintro (z | ⟨u, z1, z2, z3⟩)
              · exact Or.inl (Or.inl z)
              · by_cases hu : u = q
                · left; right
                  rw [hu, hbr] at z3
                  have z4 := (sq_pwb r hr).2 v hv
                  rw [z3, (sq_pwb v hv).2 v hv, decide_eq_true rfl] at z4
                  exact of_decide_eq_true z4.symm
                · exact Or.inr ⟨u, by omega, z2, z3⟩
      · rw [if_neg (show ¬ Int32.ofNat (sq_pc (sq_bq m q)) = (1 : Int32) by rw [ix_eqL (by omega) (by omega)]; exact h1)]
        rcases ih (q + 1) f _ (by omega) (by omega) ha with ⟨⟨u, u1, u2, u3⟩, u4⟩ | ⟨u1, a', u2, u3, u4⟩
        · left; exact ⟨⟨u, by omega, u2, u3⟩, u4⟩
        · right
          refine ⟨fun u w1 w2 => ?_, a', u2, u3, fun v hv => ?_⟩
          · by_cases hu : u = q
            · rw [hu]; exact h
            · exact u1 u (by omega) w2
          · rw [u4 v hv]
            constructor
            · rintro (z | ⟨u, z1, z2, z3⟩)
              · exact Or.inl z
              · exact Or.inr ⟨u, by omega, z2, z3⟩
            · rintro (z | ⟨u, z1, z2, z3⟩)
              · exact Or.inl z
              · by_cases hu : u = q
                · exfalso
                  rw [hu] at z3
                  exact h1 ((sq_pc1 _ hq).mpr ⟨v, hv, z3⟩)
                · exact Or.inr ⟨u, by omega, z2, z3⟩
/-- the first report without which one fits -/
theorem mz_ll {m : Nat → Int32} {a : Nat} (ok : sq_Ok m) (hb : ∀ u, u < 80 → sq_bq m u ≠ 0) (ha : ∀ v, v < 6 → (a.testBit v = true ↔ ∃ u, u < 80 ∧ sq_bq m u = 2 ^ v)) : ∀ (l r f : Nat) (s : am_S), s.1 83 = m → r + l = 6 → l < f → r ≤ sq_re m → ∃ s', F_X12_liar_82_b20 f 1 (Int32.ofNat r) s = some (sq_lo a l r, s') ∧ ix_F2 (fun k j => k == 82 && (16 ≤ j && j < 19)) s s' := by
  obtain ⟨hc, h0⟩ := sq_re_ok ok
  intro l
  have hend : ∀ (l r : Nat), sq_re m ≤ r → r + l = 6 → sq_lo a l r = -3 := by
    intro l
    induction l with
    | zero => intro r _ _; rfl
    | succ l ih =>
      intro r h1 h2
      rw [sq_lo, if_neg (fun z => ?_)]
      · exact ih (r + 1) (by omega) (by omega)
      · obtain ⟨u, u1, u2⟩ := (ha r (by omega)).mp z
        have h3 := sq_br_t (m := m) (kd := sq_kq u) (p := sq_plq u) (u := r) (by omega)
        unfold sq_bq at u2
        rw [u2, (sq_pwb r (by omega)).2 r (by omega), decide_eq_true rfl, decide_eq_false (show ¬ r < sq_re m by omega), Bool.false_and] at h3
        cases h3
  induction l with
  | zero =>
    intro r f s h83 hl hf hr
    obtain ⟨f, rfl⟩ : ∃ g, f = g + 1 := ⟨f - 1, by omega⟩
    refine ⟨s, ?_, ix_F2.rf⟩
    have e6 : s.1 83 (6 : Int32).toNatClampNeg = Int32.ofNat (sq_re m) := by rw [h83]; exact h0
    rw [F_X12_liar_82_b20, if_pos ix_k6, e6, if_pos (by rw [ix_le (by omega) (by omega)]; omega)]
    rfl
  | succ l ih =>
    intro r f s h83 hl hf hr
    obtain ⟨f, rfl⟩ : ∃ g, f = g + 1 := ⟨f - 1, by omega⟩
    have e6 : s.1 83 (6 : Int32).toNatClampNeg = Int32.ofNat (sq_re m) := by rw [h83]; exact h0
    by_cases hre : sq_re m ≤ r
    · refine ⟨s, ?_, ix_F2.rf⟩
      rw [F_X12_liar_82_b20, if_pos ix_k6, e6, if_pos (by rw [ix_le (by omega) (by omega)]; omega), hend (l + 1) r hre hl]
    · obtain ⟨s1, i1, i2, i3, i4, i5, i6⟩ := mz_ff (s := s) (but := Int32.ofNat r) ok h83
      have h831 : s1.1 83 = m := (funext fun q => i6.1 83 q (by simp)).trans h83
      have hz := sq_ff_0 (m := m) (but := Int32.ofNat r) 80 0 (s.1 82 17) (s.1 82 18)
      rw [F_X12_liar_82_b20, if_pos ix_k6, e6, if_neg (by rw [ix_le (by omega) (by omega)]; omega), if_neg (show ¬ (1 : Int32) = 0 by decide), i1, ix_b1, i2, ix_addL, sq_lo]
      by_cases ht : a.testBit r = true
      · refine ⟨s1, ?_, i6⟩
        obtain ⟨u, u1, u2⟩ := (ha r (by omega)).mp ht
        have hn : ¬ (sq_ff m (Int32.ofNat r) 80 0 (0, s.1 82 17, s.1 82 18)).1 = 0 := fun z => (hz.mp z) u (by omega) (by omega) ((sq_fq1 ok (by omega) (hb u u1)).mpr u2)
        rw [if_neg (by rw [ix_leL (by omega) (by omega)]; omega), if_pos ht]
      · have hn : (sq_ff m (Int32.ofNat r) 80 0 (0, s.1 82 17, s.1 82 18)).1 = 0 := hz.mpr (fun u h1 h2 h3 => ht ((ha r (by omega)).mpr ⟨u, by omega, (sq_fq1 ok (by omega) (hb u (by omega))).mp h3⟩))
        rw [if_pos (by rw [ix_leL (by omega) (by omega)]; omega), if_neg ht]
        obtain ⟨s2, k1, k2⟩ := ih (r + 1) f s1 h831 (by omega) (by omega) (by omega)
        exact ⟨s2, k1, i6.tr k2⟩
theorem ag_liar : jz_A F_X11_liar_0 F_X12_liar_82 := by
  intro s j
  obtain ⟨ok, R⟩ := j.1
  obtain ⟨s1, i1, i2, i3, i4, i5, i6⟩ := mz_ff (s := s) (but := -1) ok rfl
  have h831 : s1.1 83 = s.1 83 := funext fun q => i6.1 83 q (by simp)
  have hz := sq_ff_0 (m := s.1 83) (but := -1) 80 0 (s.1 82 17) (s.1 82 18)
  rcases cz_ll R ok 80 0 1000 0 (by omega) (by omega) (by omega) with ⟨⟨u, u1, u2, u3⟩, u4⟩ | ⟨u1, a', u2, u3, u4⟩
  · have hh : F_X3_leastLiar_50 s = _ := u4
    refine ⟨-3, s, s1, ?_, ?_, jz_ft j i6⟩
    · rw [F_X11_liar_0, hh, ix_b1]
    · have hn : ¬ (sq_ff (s.1 83) (-1) 80 0 (0, s.1 82 17, s.1 82 18)).1 = 0 := fun z => (hz.mp z) u (by omega) (by omega) ((sq_fq0 ok).mpr u3)
      rw [F_X12_liar_82, i1, ix_b1, i2, if_neg (by rw [ix_eqL (by omega) (by omega)]; exact hn), F_X12_liar_82_b17, F_X12_liar_82_b20, if_pos ix_k6]
      split
      · rfl
      · rfl
  · have hh : F_X3_leastLiar_50 s = _ := u3
    have hn : (sq_ff (s.1 83) (-1) 80 0 (0, s.1 82 17, s.1 82 18)).1 = 0 := hz.mpr (fun u h1 h2 h3 => u1 u (by omega) (by omega) ((sq_fq0 ok).mp h3))
    obtain ⟨s2, k1, k2⟩ := mz_ll (a := a') ok (fun u h => u1 u (by omega) h) (fun v hv => by
      rw [u4 v hv, sq_bits0 v hv]
      constructor
      · rintro (z | ⟨u, z1, z2, z3⟩)
        · cases z
        · exact ⟨u, z2, z3⟩
      · rintro ⟨u, z2, z3⟩; exact Or.inr ⟨u, by omega, z2, z3⟩) 6 0 1000 s1 h831 (by omega) (by omega) (by omega)
    refine ⟨sq_lo a' 6 0, s, s2, ?_, ?_, jz_ft (jz_ft j i6) k2⟩
    · rw [F_X11_liar_0, hh, ix_b1]
    · rw [F_X12_liar_82, i1, ix_b1, i2, hn, if_pos (show Int32.ofNat 0 = (0 : Int32) from rfl), F_X12_liar_82_b17]
      exact k1
