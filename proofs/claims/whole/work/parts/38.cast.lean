/-! LAYER 2: a turn goes by: the net -/
def sq_il (m : Nat → Int32) (a : Int32) : Nat → Nat → Nat → Option Nat
  | 0, _, acc => some acc
  | l + 1, v, acc => if m (24 + 5 * v + 4) = 0 ∧ -1 ≤ m (24 + 5 * v + 3) - a ∧ m (24 + 5 * v + 3) - a ≤ 1 then (if m (24 + 5 * v) = 4 ∧ ¬ m (24 + 5 * v + 2) < 8 then none else sq_il m a l (v + 1) (acc ||| 2 ^ v)) else sq_il m a l (v + 1) acc
def sq_c1 (m : Nat → Int32) (v : Nat) : Nat → Int32 := upd m (24 + 5 * v + 4) (if sq_will m v = 1 then 0 else 1)
def sq_pw (m : Nat → Int32) (v : Nat) : Int32 := if sq_will m v = 1 then 1 else if sq_will m v = 2 then sq_pr (m (24 + 5 * v)) (m (24 + 5 * v + 2)) / 2 + 3 else sq_pr (m (24 + 5 * v)) (m (24 + 5 * v + 2))
def sq_wk (h : Nat → Bool) : Nat → Nat → (Nat → Int32) → Int32 → (Nat → Int32) × Int32
  | 0, _, m, w => (m, w)
  | l + 1, v, m, w => if h v = true then sq_wk h l (v + 1) (sq_c1 m v) (w + sq_pw m v) else sq_wk h l (v + 1) m w
def sq_fin (p : (Nat → Int32) × Int32) : (Nat → Int32) × Int32 := (upd (upd p.1 4 (p.1 4 + p.2)) 3 (p.1 3 + 1), p.2)
/-- which are held by a net at a place -/
def sq_hb (m : Nat → Int32) (a : Int32) : Nat → Bool := match sq_il m a (sq_cn m) 0 0 with
  | none => fun _ => false
  | some x => fun v => x.testBit v && !decide (m (24 + 5 * v + 2) ≤ m 5)
/-- the act a (1 more than a voice's number, or 0), behind the drift -/
def sq_ca (m : Nat → Int32) (a : Nat) : (Nat → Int32) × Int32 := sq_fin (sq_wk (if 0 < a ∧ m (24 + 5 * (a - 1) + 4) = 0 then sq_hb m (m (24 + 5 * (a - 1) + 3)) else fun _ => false) (sq_cn m) 0 m 0)
def sq_go (m : Nat → Int32) (a : Nat) : (Nat → Int32) × Int32 := sq_ca (sq_d m) a
theorem sq_wk_f : ∀ (l v : Nat) (m : Nat → Int32) (w : Int32), sq_wk (fun _ => false) l v m w = (m, w) := by
  intro l
  induction l with
  | zero => intro v m w; rfl
  | succ l ih => intro v m w; rw [sq_wk, if_neg (by simp)]; exact ih _ _ _
/-- what the model holds of a set, for what the class has in the net -/
def sq_fl (m : Nat → Int32) (y x : Nat) : Prop := y < 64 ∧ x < 64 ∧ ∀ u, u < 6 → y.testBit u = (x.testBit u && !decide (m (24 + 5 * u + 2) ≤ m 5))
theorem sq_bits0 : ∀ u, u < 6 → (0 : Nat).testBit u = false := by decide
theorem mz_isIn {s : am_S} {v : Nat} {a : Int32} (hv : v < 6) : F_X12_isIn_82 (Int32.ofNat v) a s = some (if s.1 83 (24 + 5 * v + 4) = 0 ∧ -1 ≤ s.1 83 (24 + 5 * v + 3) - a ∧ s.1 83 (24 + 5 * v + 3) - a ≤ 1 then 1 else 0, s) := by
  unfold F_X12_isIn_82
  rw [mz_its4 hv, ix_b1]
  dsimp only
  by_cases h : s.1 83 (24 + 5 * v + 4) = 0
  · rw [if_pos h, mz_its3 hv, ix_b1]
    dsimp only
    have e : F_X12_in (s.1 83 (24 + 5 * v + 3) - a).toInt64 (-1) 1 s = some (ix_wi (s.1 83 (24 + 5 * v + 3) - a) (-1) 1, s) := ix_mw (lo := -1) (hi := 1)
    rw [e, ix_b1]
    dsimp only
    by_cases h2 : -1 ≤ s.1 83 (24 + 5 * v + 3) - a ∧ s.1 83 (24 + 5 * v + 3) - a ≤ 1
    · rw [ix_wi_p h2, if_neg (by decide), if_pos ⟨h, h2⟩]
    · rw [ix_wi_n h2, if_pos rfl, if_neg (fun z => h2 z.2)]
  · rw [if_neg h, if_neg (fun z => h z.1)]
theorem mz_held {a : Int32} : ∀ (l v f : Nat) (s : am_S) (y x : Nat), sq_Ok (s.1 83) → v + l = sq_cn (s.1 83) → l < f → sq_fl (s.1 83) y x → ∃ z, F_X12_heldAt_82_b4 f a (Int32.ofNat y) (Int32.ofNat v) s = some (Int32.ofNat z, s) ∧ z < 64 ∧ (sq_il (s.1 83) a l v x = none → z = 0) ∧ (∀ t, sq_il (s.1 83) a l v x = some t → sq_fl (s.1 83) z t) := by
  intro l
  induction l with
  | zero =>
    intro v f s y x ok hl hf hfl
    obtain ⟨f, rfl⟩ : ∃ g, f = g + 1 := ⟨f - 1, by omega⟩
    obtain ⟨hc, h0⟩ := sq_cn_ok ok
    have e0 : s.1 83 (0 : Int32).toNatClampNeg = Int32.ofNat (sq_cn (s.1 83)) := h0
    refine ⟨y, ?_, hfl.1, (fun h => by cases h), fun t h => ?_⟩
    · rw [F_X12_heldAt_82_b4, if_pos (by decide), e0, if_pos ((ix_le (by omega) (by omega)).mpr (by omega))]
    · cases h; exact hfl
  | succ l ih =>
    intro v f s y x ok hl hf hfl
    obtain ⟨f, rfl⟩ : ∃ g, f = g + 1 := ⟨f - 1, by omega⟩
    obtain ⟨hc, h0⟩ := sq_cn_ok ok
    have hv : v < 6 := by omega
    have e0 : s.1 83 (0 : Int32).toNatClampNeg = Int32.ofNat (sq_cn (s.1 83)) := h0
    rw [F_X12_heldAt_82_b4, if_pos (by decide), e0, if_neg (by rw [ix_le (by omega) (by omega)]; omega), mz_isIn hv, ix_b1, sq_il]
    dsimp only
    by_cases h1 : s.1 83 (24 + 5 * v + 4) = 0 ∧ -1 ≤ s.1 83 (24 + 5 * v + 3) - a ∧ s.1 83 (24 + 5 * v + 3) - a ≤ 1
    · rw [if_pos h1, if_neg (by decide), mz_bursts hv, ix_b1, if_pos h1]
      dsimp only
      by_cases h2 : s.1 83 (24 + 5 * v) = 4 ∧ ¬ s.1 83 (24 + 5 * v + 2) < 8
      · rw [if_pos h2, if_neg (by decide), if_pos h2]
        exact ⟨0, rfl, by omega, fun _ => rfl, fun t h => by cases h⟩
      · rw [if_neg h2, if_pos rfl, mz_its2 hv, ix_b1, if_pos (by decide), if_neg h2]
        dsimp only
        obtain ⟨g1, g2⟩ := sq_bor_t y hfl.1 v hv
        obtain ⟨k1, k2⟩ := sq_bor_t x hfl.2.1 v hv
        have e5 : s.1 83 (5 : Int32).toNatClampNeg = s.1 83 5 := rfl
        rw [e5, F_X12_heldAt_82_b56, F_X12_heldAt_82_b58, F_X12_heldAt_82_b56, F_X12_heldAt_82_b58, ix_addL, sq_bor y hfl.1 v hv]
        by_cases h3 : s.1 83 (24 + 5 * v + 2) ≤ s.1 83 5
        · rw [if_pos h3, show Int32.ofNat y ||| 0 = Int32.ofNat y from Int32.or_zero]
          refine ih (v + 1) f s y (x ||| 2 ^ v) ok (by omega) (by omega) ⟨hfl.1, k1, fun u hu => ?_⟩
          rw [k2 u hu, hfl.2.2 u hu]
          by_cases hu2 : u = v
          · subst hu2; simp [h3]
          · simp [hu2]
        · rw [if_neg h3]
          refine ih (v + 1) f s (y ||| 2 ^ v) (x ||| 2 ^ v) ok (by omega) (by omega) ⟨g1, k1, fun u hu => ?_⟩
          rw [k2 u hu, g2 u hu, hfl.2.2 u hu]
          by_cases hu2 : u = v
          · subst hu2; simp [h3]
          · simp [hu2]
    · rw [if_neg h1, if_pos rfl, if_neg h1, F_X12_heldAt_82_b58, ix_addL]
      exact ih (v + 1) f s y x ok (by omega) (by omega) hfl
theorem mz_done {s : am_S} {v : Nat} (ok : sq_Ok (s.1 83)) (hv : v < 6) : ∃ s', F_X12_doneWith_82 (Int32.ofNat v) s = some (sq_pw (s.1 83) v, s') ∧ s'.1 83 = sq_c1 (s.1 83) v ∧ ix_Fr (fun q => q == 83 || q == 86) s s' := by
  obtain ⟨s1, h1, f1⟩ := mz_will (s := s) hv ok.2.2.2.2.2.2.2
  have e83 : s1.1 83 = s.1 83 := f1.1 83 rfl
  have ea : F_X12_at (Int32.ofNat v) 4 s1 = some (Int32.ofNat (24 + 5 * v + 4), s1) := mz_at (w := 4)
  have hst : ∀ b : Int32, ∃ s', F_X12_doneWith_82_b25 (Int32.ofNat v) (sq_will (s.1 83) v) b (Int32.ofNat (24 + 5 * v + 4)) s1 = some (sq_pw (s.1 83) v, s') ∧ s'.1 83 = upd (s.1 83) (24 + 5 * v + 4) b ∧ ix_Fr (fun q => q == 83 || q == 86) s s' := by
    intro b
    have e2 : (am_sI s1 83 (24 + 5 * v + 4) b).1 83 = upd (s.1 83) (24 + 5 * v + 4) b := by rw [ix_sIf, e83]
    have hp : F_X12_price_82 (Int32.ofNat v) (am_sI s1 83 (24 + 5 * v + 4) b) = some (sq_pr (s.1 83 (24 + 5 * v)) (s.1 83 (24 + 5 * v + 2)), am_sI s1 83 (24 + 5 * v + 4) b) := by
      rw [mz_price hv, e2, ix_upn (by omega), ix_upn (by omega)]
    refine ⟨am_sI s1 83 (24 + 5 * v + 4) b, ?_, e2, (f1.wd (fun k hk => by simp at hk ⊢; exact hk.2)).tr (ix_Fr.I (by rfl))⟩
    rw [F_X12_doneWith_82_b25, if_pos ((ix_in (by omega)).mpr (by omega)), ix_nat (by omega), ix_b1, hp, ix_b1, ix_b1]
    unfold sq_pw
    repeat' split
    all_goals rfl
  unfold F_X12_doneWith_82 sq_c1
  rw [h1, ix_b1]
  dsimp only
  rw [ea, ix_b1]
  dsimp only
  by_cases hw : sq_will (s.1 83) v = 1
  · rw [if_pos hw, if_pos hw]; exact hst 0
  · rw [if_neg hw, if_neg hw]; exact hst 1
theorem sq_c1_n {m : Nat → Int32} {v j : Nat} (h : j ≠ 24 + 5 * v + 4) : sq_c1 m v j = m j := ix_upn h
theorem sq_c1_ok {m : Nat → Int32} {v : Nat} (ok : sq_Ok m) (hv : v < sq_cn m) : sq_Ok (sq_c1 m v) := by
  refine sq_Ok_caught ok hv ?_
  split
  · exact ⟨0, by omega, rfl⟩
  · exact ⟨1, by omega, rfl⟩
theorem mz_wk {z : Nat} {h : Nat → Bool} (hz : z < 64) (hb : ∀ u, u < 6 → z.testBit u = h u) : ∀ (l v f : Nat) (s : am_S) (w : Int32), sq_Ok (s.1 83) → v + l = sq_cn (s.1 83) → l < f → ∃ s', F_X12_goes_82_b116 f (Int32.ofNat z) w (Int32.ofNat v) s = some ((sq_fin (sq_wk h l v (s.1 83) w)).2, s') ∧ s'.1 83 = (sq_fin (sq_wk h l v (s.1 83) w)).1 ∧ ix_Fr (fun q => q == 83 || q == 86) s s' := by
  intro l
  induction l with
  | zero =>
    intro v f s w ok hl hf
    obtain ⟨f, rfl⟩ : ∃ g, f = g + 1 := ⟨f - 1, by omega⟩
    obtain ⟨hc, h0⟩ := sq_cn_ok ok
    have e0 : s.1 83 (0 : Int32).toNatClampNeg = Int32.ofNat (sq_cn (s.1 83)) := h0
    refine ⟨am_sI (am_sI s 83 4 (s.1 83 4 + w)) 83 3 ((am_sI s 83 4 (s.1 83 4 + w)).1 83 3 + 1), ?_, ?_, (ix_Fr.I (by rfl)).tr (ix_Fr.I (by rfl))⟩
    · rw [F_X12_goes_82_b116, if_pos (by decide), e0, if_pos ((ix_le (by omega) (by omega)).mpr (by omega)), if_pos (by decide), if_pos (by decide), ix_b1, if_pos (by decide), if_pos (by decide), ix_b1]
      rfl
    · rw [ix_sIf, ix_sIf]; rfl
  | succ l ih =>
    intro v f s w ok hl hf
    obtain ⟨f, rfl⟩ : ∃ g, f = g + 1 := ⟨f - 1, by omega⟩
    obtain ⟨hc, h0⟩ := sq_cn_ok ok
    have hv : v < 6 := by omega
    have e0 : s.1 83 (0 : Int32).toNatClampNeg = Int32.ofNat (sq_cn (s.1 83)) := h0
    rw [F_X12_goes_82_b116, if_pos (by decide), e0, if_neg (by rw [ix_le (by omega) (by omega)]; omega), sq_bit z hz v hv, hb v hv, sq_wk]
    by_cases hh : h v = true
    · rw [if_pos hh, if_pos rfl, if_pos hh]
      obtain ⟨s1, d1, d2, d3⟩ := mz_done (s := s) ok hv
      rw [d1, ix_b1, F_X12_goes_82_b149, ix_addL]
      have ok1 : sq_Ok (s1.1 83) := by rw [d2]; exact sq_c1_ok ok (by omega)
      have ec : sq_cn (s1.1 83) = sq_cn (s.1 83) := by rw [d2]; unfold sq_cn; rw [sq_c1_n (by omega)]
      obtain ⟨s', i1, i2, i3⟩ := ih (v + 1) f s1 (w + sq_pw (s.1 83) v) ok1 (by rw [ec]; omega) (by omega)
      rw [d2] at i1 i2
      exact ⟨s', i1, i2, d3.tr i3⟩
    · rw [if_neg hh, if_neg (by decide), if_neg hh, F_X12_goes_82_b149, ix_addL, Int32.add_zero]
      exact ih (v + 1) f s w ok (by omega) (by omega)
