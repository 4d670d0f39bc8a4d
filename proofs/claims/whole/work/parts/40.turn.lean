/-! LAYER 2: a turn in the class; what a turn leaves; the least act -/
/-- it isn't over -/
theorem sq_lt_tn {m : Nat → Int32} (ok : sq_Ok m) (h : m 3 < m 2) : ∃ e, sq_tn m < e ∧ e ≤ 16 ∧ m 2 = Int32.ofNat e := by
  obtain ⟨-, ⟨t, e, h1, h2, h3, h4, h5⟩, -⟩ := ok
  have ht : sq_tn m = t := by unfold sq_tn; rw [h4, ix_nat (by omega)]
  rw [h4, h5, ix_lt (by omega) (by omega)] at h
  exact ⟨e, by omega, h3, h5⟩
theorem sq_lt16 {m : Nat → Int32} (ok : sq_Ok m) (h : m 3 < m 2) : sq_tn m < 16 := by
  obtain ⟨e, h1, h2, -⟩ := sq_lt_tn ok h
  omega
theorem sq_fin_ok {m : Nat → Int32} {w : Int32} (ok : sq_Ok m) (h : m 3 < m 2) : sq_Ok (sq_fin (m, w)).1 := by
  obtain ⟨e, g1, g2, g3⟩ := sq_lt_tn ok h
  obtain ⟨-, g4⟩ := sq_tn_ok ok
  have hj : ∀ j, j ≠ 3 → j ≠ 4 → (sq_fin (m, w)).1 j = m j := fun j h3 h4 => by
    show upd (upd m 4 (m 4 + w)) 3 (m 3 + 1) j = m j
    rw [ix_upn h3, ix_upn h4]
  have h3 : (sq_fin (m, w)).1 3 = Int32.ofNat (sq_tn m + 1) := by
    show m 3 + 1 = _
    rw [g4, ix_addL]
  obtain ⟨a0, -, a5, a6, a8, a24, a54, aR⟩ := ok
  refine ⟨?_, ⟨sq_tn m + 1, e, by omega, by omega, g2, h3, ?_⟩, ?_, ?_, ?_, ?_, ?_, sq_OkR_c ?_ ?_ aR⟩
  · obtain ⟨c, c1, c2, c3⟩ := a0
    exact ⟨c, c1, by rw [hj 0 (by omega) (by omega)]; exact c2, fun v h1 h2 => by rw [hj _ (by omega) (by omega)]; exact c3 v h1 h2⟩
  · rw [hj 2 (by omega) (by omega)]; exact g3
  · rw [hj 5 (by omega) (by omega)]; exact a5
  · rw [hj 6 (by omega) (by omega)]; exact a6
  · intro j hj2; rw [hj _ (by omega) (by omega)]; exact a8 j hj2
  · intro v hv
    rw [hj _ (by omega) (by omega), hj _ (by omega) (by omega), hj _ (by omega) (by omega), hj _ (by omega) (by omega), hj _ (by omega) (by omega)]
    exact a24 v hv
  · intro r hr
    rw [hj _ (by omega) (by omega), hj _ (by omega) (by omega), hj _ (by omega) (by omega)]
    exact a54 r hr
  · exact hj 1 (by omega) (by omega)
  · intro j hj2; exact hj j (by omega) (by omega)
theorem cz_cast {s : am_S} {m : Nat → Int32} {a : Nat} (R : sq_R s.1 8 m) (ok : sq_Ok m) (ha : a ≤ sq_cn m) : ∃ s', F_X8_cast_8 (Int32.ofNat a) s = some ((sq_ca m a).2, s') ∧ sq_R s'.1 8 (sq_ca m a).1 ∧ ix_Fr (fun q => q == 8 || q == 23) s s' := by
  obtain ⟨hc, h0⟩ := sq_cn_ok ok
  have hfin : ∀ (z : Nat) (h : Nat → Bool), z < 64 → (∀ u, u < 6 → z.testBit u = h u) → sq_ca m a = sq_fin (sq_wk h (sq_cn m) 0 m 0) → ∃ s', F_X8_cast_8_b36 (Int32.ofNat a) (Int32.ofNat z) s = some ((sq_ca m a).2, s') ∧ sq_R s'.1 8 (sq_ca m a).1 ∧ ix_Fr (fun q => q == 8 || q == 23) s s' := by
    intro z h hz hb e
    rw [e]
    exact cz_wk hz hb (sq_cn m) 0 1000 s m 0 R ok (by omega) (by omega)
  have hno : sq_ca m a = sq_fin (sq_wk (fun _ => false) (sq_cn m) 0 m 0) → ∃ s', F_X8_cast_8_b35 (Int32.ofNat a) s = some ((sq_ca m a).2, s') ∧ sq_R s'.1 8 (sq_ca m a).1 ∧ ix_Fr (fun q => q == 8 || q == 23) s s' := fun e => hfin 0 _ (by omega) sq_bits0 e
  unfold F_X8_cast_8
  rw [cz_has R, ix_b1]
  dsimp only
  by_cases ha0 : 0 < a
  · have e1 : Int32.ofNat a - 1 = Int32.ofNat (a - 1) := ix_subL a 1 ha0
    have hv : a - 1 < 6 := by omega
    have hh : (0 : Int32) ≤ Int32.ofNat (a - 1) ∧ Int32.ofNat (a - 1) < m 0 := by
      refine ⟨Int32.zero_le_ofNat_of_lt (by omega), ?_⟩
      rw [h0, ix_lt (by omega) (by omega)]; omega
    rw [e1, if_pos hh, if_neg (by decide), cz_caught R ok hv, ix_b1]
    dsimp only
    by_cases hca : m (24 + 5 * (a - 1) + 4) = 0
    · have env : (Int32.ofNat (a - 1)).toNatClampNeg = a - 1 := ix_nat (by omega)
      rw [if_pos hca, if_pos (cz_inv hv), env, cz_place R hv]
      obtain ⟨p, hp, ep⟩ := (ok.2.2.2.2.2.1 (a - 1) hv).2.2.2.1
      obtain ⟨z, y1, y2, y3, y4⟩ := cz_held (s := s) (a := p) R ok (by omega) (sq_cn m) 0 1000 0 0 (by omega) (by omega) ⟨by omega, by omega, fun u hu => by rw [sq_bits0 u hu]; rfl⟩
      have hsp : sq_ca m a = sq_fin (sq_wk (sq_hb m (Int32.ofNat p)) (sq_cn m) 0 m 0) := by
        unfold sq_ca; rw [if_pos ⟨ha0, hca⟩, ep]
      have y1' : F_X8_heldByNetAt_8 (Int32.ofNat p) s = some (Int32.ofNat z, s) := y1
      rw [ep, y1', ix_b1]
      refine hfin z _ y2 (fun u hu => ?_) hsp
      unfold sq_hb
      generalize sq_il m (Int32.ofNat p) (sq_cn m) 0 0 = q at y3 y4
      cases q with
      | none => rw [y3 rfl]; exact sq_bits0 u hu
      | some t => exact (y4 t rfl).2.2 u hu
    · rw [if_neg hca]
      exact hno (by unfold sq_ca; rw [if_neg (fun z => hca z.2)])
  · have ha1 : a = 0 := by omega
    subst ha1
    have hh : ¬ ((0 : Int32) ≤ Int32.ofNat 0 - 1 ∧ Int32.ofNat 0 - 1 < m 0) := fun z => absurd z.1 (by decide)
    rw [if_neg hh, if_pos rfl]
    exact hno (by unfold sq_ca; rw [if_neg (fun z => ha0 z.1)])
theorem sq_d_32 {m : Nat → Int32} (ok : sq_Ok m) (h : m 3 < m 2) : sq_d m 3 < sq_d m 2 := by
  rw [sq_d_n ok (by omega), sq_d_n ok (by omega)]; exact h
theorem cz_goBy {s : am_S} {m : Nat → Int32} {a : Nat} (R : sq_R s.1 8 m) (ok : sq_Ok m) (h : m 3 < m 2) (ha : a ≤ sq_cn m) : ∃ s', F_X8_goBy_8 (Int32.ofNat a) s = some ((sq_go m a).2, s') ∧ sq_R s'.1 8 (sq_go m a).1 ∧ ix_Fr (fun q => q == 8 || q == 13 || q == 23) s s' := by
  have ht := sq_lt16 ok h
  unfold F_X8_goBy_8
  rw [cz_over R ok, if_pos h, ix_b1]
  dsimp only
  obtain ⟨s1, d1, d2, d3⟩ := cz_driftAll R ok ht
  rw [if_pos rfl, d1, ix_b1]
  have ecn : sq_cn (sq_d m) = sq_cn m := by unfold sq_cn; rw [sq_d_n ok (by omega)]
  obtain ⟨s2, c1, c2, c3⟩ := cz_cast (a := a) d2 (sq_d_ok ok ht) (by rw [ecn]; exact ha)
  rw [c1, ix_b1]
  exact ⟨s2, rfl, c2, (d3.wd (fun k hk => by simp at hk ⊢; exact hk.1.2)).tr (c3.wd (fun k hk => by simp at hk ⊢; exact ⟨hk.1.1, hk.2⟩))⟩
theorem cz_goBy0 {s : am_S} {m : Nat → Int32} {a : Int32} (R : sq_R s.1 8 m) (ok : sq_Ok m) (h : ¬ m 3 < m 2) : F_X8_goBy_8 a s = some (0, s) := by
  unfold F_X8_goBy_8
  rw [cz_over R ok, if_neg h, ix_b1]
  rfl
/-! what a turn leaves -/
theorem sq_pr_N {k st : Int32} (hk : sq_N k 5) (hs : sq_N st 9) : sq_N (sq_pr k st) 18 ∧ sq_N (sq_pr k st / 2 + 3) 18 := by
  obtain ⟨k, hk, rfl⟩ := hk
  obtain ⟨st, hs, rfl⟩ := hs
  have hf : ∀ k, k ≤ 5 → ∀ st, st ≤ 9 → (0 ≤ sq_pr (Int32.ofNat k) (Int32.ofNat st) ∧ sq_pr (Int32.ofNat k) (Int32.ofNat st) ≤ Int32.ofNat 18) ∧ (0 ≤ sq_pr (Int32.ofNat k) (Int32.ofNat st) / 2 + 3 ∧ sq_pr (Int32.ofNat k) (Int32.ofNat st) / 2 + 3 ≤ Int32.ofNat 18) := by decide +kernel
  obtain ⟨h1, h2⟩ := hf k hk st hs
  exact ⟨ix_of2 (by omega) h1.1 h1.2, ix_of2 (by omega) h2.1 h2.2⟩
theorem sq_pw_N {m : Nat → Int32} {v : Nat} (ok : sq_Ok m) (hv : v < 6) : sq_N (sq_pw m v) 18 := by
  obtain ⟨b0, -, b2, -⟩ := ok.2.2.2.2.2.1 v hv
  obtain ⟨h1, h2⟩ := sq_pr_N b0 b2
  unfold sq_pw
  split
  · exact ⟨1, by omega, rfl⟩
  · split
    · exact h2
    · exact h1
theorem sq_wk_ok {h : Nat → Bool} : ∀ (l v n : Nat) (m : Nat → Int32), sq_Ok m → v + l ≤ sq_cn m → sq_Ok (sq_wk h l v m (Int32.ofNat n)).1 ∧ (∀ j, (∀ u, u < 6 → j ≠ 24 + 5 * u + 4) → (sq_wk h l v m (Int32.ofNat n)).1 j = m j) ∧ ∃ n', n' ≤ n + 18 * l ∧ (sq_wk h l v m (Int32.ofNat n)).2 = Int32.ofNat n' := by
  intro l
  induction l with
  | zero => intro v n m ok _; exact ⟨ok, fun _ _ => rfl, n, by omega, rfl⟩
  | succ l ih =>
    intro v n m ok hl
    have hc := (sq_cn_ok ok).1
    rw [sq_wk]
    split
    · obtain ⟨w, hw, ew⟩ := sq_pw_N (v := v) ok (by omega)
      rw [ew, ix_add]
      have ok1 := sq_c1_ok ok (v := v) (by omega)
      have ec : sq_cn (sq_c1 m v) = sq_cn m := by unfold sq_cn; rw [sq_c1_n (by omega)]
      obtain ⟨i1, i2, n', i3, i4⟩ := ih (v + 1) (n + w) (sq_c1 m v) ok1 (by rw [ec]; omega)
      refine ⟨i1, fun j hj => ?_, n', by omega, i4⟩
      rw [i2 j hj]
      exact sq_c1_n (hj v (by omega))
    · obtain ⟨i1, i2, n', i3, i4⟩ := ih (v + 1) n m ok (by omega)
      exact ⟨i1, i2, n', by omega, i4⟩
/-- behind an act: ok, places and catches of the row alone have changed, one turn more, worth some -/
theorem sq_ca_ok {m : Nat → Int32} {a : Nat} (ok : sq_Ok m) (h : m 3 < m 2) : sq_Ok (sq_ca m a).1 ∧ (∀ j, ¬ sq_ch j → (sq_ca m a).1 j = m j) ∧ (sq_ca m a).1 3 = m 3 + 1 ∧ ∃ n, n ≤ 108 ∧ (sq_ca m a).2 = Int32.ofNat n := by
  have hc := (sq_cn_ok ok).1
  unfold sq_ca
  generalize (if 0 < a ∧ m (24 + 5 * (a - 1) + 4) = 0 then sq_hb m (m (24 + 5 * (a - 1) + 3)) else fun _ => false) = hh
  obtain ⟨i1, i2, n, i3, i4⟩ := sq_wk_ok (h := hh) (sq_cn m) 0 0 m ok (by omega)
  have i4' : (sq_wk hh (sq_cn m) 0 m 0).2 = Int32.ofNat n := i4
  have i2' : ∀ j, (∀ u, u < 6 → j ≠ 24 + 5 * u + 4) → (sq_wk hh (sq_cn m) 0 m 0).1 j = m j := i2
  have i1' : sq_Ok (sq_wk hh (sq_cn m) 0 m 0).1 := i1
  refine ⟨?_, fun j hj => ?_, ?_, n, by omega, i4'⟩
  · refine sq_fin_ok (w := (sq_wk hh (sq_cn m) 0 m 0).2) i1' ?_
    rw [i2' 3 (by omega), i2' 2 (by omega)]; exact h
  · show upd (upd _ 4 _) 3 _ j = m j
    unfold sq_ch at hj
    rw [ix_upn (by omega), ix_upn (by omega)]
    exact i2' j (by omega)
  · show (sq_wk hh (sq_cn m) 0 m 0).1 3 + 1 = _
    rw [i2' 3 (by omega)]
theorem sq_go_ok {m : Nat → Int32} {a : Nat} (ok : sq_Ok m) (h : m 3 < m 2) : sq_Ok (sq_go m a).1 ∧ (∀ j, ¬ sq_ch j → (sq_go m a).1 j = m j) ∧ (sq_go m a).1 3 = m 3 + 1 ∧ ∃ n, n ≤ 108 ∧ (sq_go m a).2 = Int32.ofNat n := by
  obtain ⟨h1, h2, h3, h4⟩ := sq_ca_ok (a := a) (sq_d_ok ok (sq_lt16 ok h)) (sq_d_32 ok h)
  refine ⟨h1, fun j hj => ?_, ?_, h4⟩
  · have e := h2 j hj
    unfold sq_ch at hj
    rw [sq_d_n ok (by omega)] at e
    exact e
  · rw [sq_d_n ok (by omega)] at h3
    exact h3
/-! the least act -/
def sq_lal (m : Nat → Int32) : Nat → Nat → Nat
  | 0, _ => 0
  | l + 1, v => if m (24 + 5 * v + 4) = 0 then v + 1 else sq_lal m l (v + 1)
def sq_la (m : Nat → Int32) : Nat := sq_lal m (sq_cn m) 0
theorem sq_lal_le (m : Nat → Int32) : ∀ l v, sq_lal m l v ≤ v + l := by
  intro l
  induction l with
  | zero => intro v; exact Nat.zero_le _
  | succ l ih =>
    intro v
    rw [sq_lal]
    split
    · omega
    · have := ih (v + 1); omega
theorem sq_la_le (m : Nat → Int32) : sq_la m ≤ sq_cn m := by have := sq_lal_le m (sq_cn m) 0; unfold sq_la; omega
theorem mz_lal {s : am_S} (ok : sq_Ok (s.1 83)) : ∀ l v f, v + l = sq_cn (s.1 83) → l < f → F_X12_leastAct_82_b2 f (Int32.ofNat v) s = some (Int32.ofNat (sq_lal (s.1 83) l v), s) := by
  obtain ⟨hc, h0⟩ := sq_cn_ok ok
  have e0 : s.1 83 (0 : Int32).toNatClampNeg = Int32.ofNat (sq_cn (s.1 83)) := h0
  intro l
  induction l with
  | zero =>
    intro v f hl hf
    obtain ⟨f, rfl⟩ : ∃ g, f = g + 1 := ⟨f - 1, by omega⟩
    rw [F_X12_leastAct_82_b2, if_pos (by decide), e0, if_pos ((ix_le (by omega) (by omega)).mpr (by omega))]
    rfl
  | succ l ih =>
    intro v f hl hf
    obtain ⟨f, rfl⟩ : ∃ g, f = g + 1 := ⟨f - 1, by omega⟩
    rw [F_X12_leastAct_82_b2, if_pos (by decide), e0, if_neg (by rw [ix_le (by omega) (by omega)]; omega), mz_its4 (by omega), ix_b1, sq_lal, ix_addL, ih (v + 1) f (by omega) (by omega)]
    dsimp only
    split <;> rfl
theorem mz_la {s : am_S} (ok : sq_Ok (s.1 83)) : F_X12_leastAct_82 s = some (Int32.ofNat (sq_la (s.1 83)), s) := mz_lal ok _ 0 1000 (by omega) (by have := (sq_cn_ok ok).1; omega)
theorem cz_lal {s : am_S} {m : Nat → Int32} (R : sq_R s.1 8 m) (ok : sq_Ok m) : ∀ l v f, v + l = sq_cn m → l < f → F_X8_leastAct_8_b2 f (Int32.ofNat v) s = some (Int32.ofNat (sq_lal m l v), s) := by
  obtain ⟨hc, h0⟩ := sq_cn_ok ok
  intro l
  induction l with
  | zero =>
    intro v f hl hf
    obtain ⟨f, rfl⟩ : ∃ g, f = g + 1 := ⟨f - 1, by omega⟩
    rw [F_X8_leastAct_8_b2, R.2.2.2.2.2.1, h0, if_pos ((ix_le (by omega) (by omega)).mpr (by omega))]
    rfl
  | succ l ih =>
    intro v f hl hf
    obtain ⟨f, rfl⟩ : ∃ g, f = g + 1 := ⟨f - 1, by omega⟩
    rw [F_X8_leastAct_8_b2, R.2.2.2.2.2.1, h0, if_neg (by rw [ix_le (by omega) (by omega)]; omega), cz_caught R ok (by omega), ix_b1, sq_lal, ix_addL, ih (v + 1) f (by omega) (by omega)]
    dsimp only
    split <;> rfl
theorem cz_la {s : am_S} {m : Nat → Int32} (R : sq_R s.1 8 m) (ok : sq_Ok m) : F_X8_leastAct_8 s = some (Int32.ofNat (sq_la m), s) := cz_lal R ok _ 0 1000 (by omega) (by have := (sq_cn_ok ok).1; omega)
