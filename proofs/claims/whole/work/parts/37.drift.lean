/-! LAYER 2: a turn goes by: the drift -/
def sq_cn (m : Nat → Int32) : Nat := (m 0).toNatClampNeg
def sq_tn (m : Nat → Int32) : Nat := (m 3).toNatClampNeg
def sq_d1 (m : Nat → Int32) (v : Nat) : Nat → Int32 := upd m (24 + 5 * v + 3) (if m (24 + 5 * v + 4) = 1 then m (24 + 5 * v + 3) else sq_to (m (8 + sq_tn m)) (m (24 + 5 * v + 3)) (sq_dr (m (24 + 5 * v)) (m (24 + 5 * v + 2)) (m 3)))
def sq_dl : Nat → Nat → (Nat → Int32) → (Nat → Int32)
  | 0, _, m => m
  | l + 1, v, m => sq_dl l (v + 1) (sq_d1 m v)
def sq_d (m : Nat → Int32) : Nat → Int32 := sq_dl (sq_cn m) 0 m
/-- what a place in the row is for a turn: one that it may change -/
def sq_ch (j : Nat) : Prop := (24 ≤ j ∧ j < 54 ∧ (j % 5 = 2 ∨ j % 5 = 3)) ∨ j = 3 ∨ j = 4
theorem ix_upself {m : Nat → Int32} {k : Nat} : upd m k (m k) = m := by
  funext j; rw [ix_up]; split
  · rename_i h; rw [h]
  · rfl
theorem sq_N_of {x : Int32} {b : Nat} (hb : b < 2147483648) (h : sq_N x b) : x = Int32.ofNat x.toNatClampNeg ∧ x.toNatClampNeg ≤ b := by
  obtain ⟨n, hn, rfl⟩ := h
  rw [ix_nat (by omega)]; exact ⟨rfl, hn⟩
theorem sq_cn_ok {m : Nat → Int32} (ok : sq_Ok m) : sq_cn m ≤ 6 ∧ m 0 = Int32.ofNat (sq_cn m) := by
  obtain ⟨⟨c, h1, h2, -⟩, -⟩ := ok
  have h := sq_N_of (x := m 0) (b := 6) (by omega) ⟨c, h1, h2⟩
  exact ⟨h.2, h.1⟩
theorem sq_tn_ok {m : Nat → Int32} (ok : sq_Ok m) : sq_tn m ≤ 16 ∧ m 3 = Int32.ofNat (sq_tn m) := by
  obtain ⟨-, ⟨t, e, h1, h2, h3, h4, h5⟩, -⟩ := ok
  have h := sq_N_of (x := m 3) (b := 16) (by omega) ⟨t, by omega, h4⟩
  exact ⟨h.2, h.1⟩
/-- a row that differs from an ok one in places and catches alone -/
theorem sq_Ok_pc {m m' : Nat → Int32} (ok : sq_Ok m) (h : ∀ j, ¬ sq_ch j → m' j = m j) (h3 : m' 3 = m 3) (hp : ∀ v, v < 6 → sq_N (m' (24 + 5 * v + 3)) 15) (hc : ∀ v, v < 6 → sq_N (m' (24 + 5 * v + 4)) 1) (h0 : ∀ v, v < 6 → sq_cn m ≤ v → m' (24 + 5 * v + 4) = 0) : sq_Ok m' := by
  obtain ⟨⟨c, c1, c2, c3⟩, ⟨t, e, t1, t2, t3, t4, t5⟩, a5, a6, a8, a24, a54, aR⟩ := ok
  have hcn : sq_cn m = c := by unfold sq_cn; rw [c2, ix_nat (by omega)]
  rw [hcn] at h0
  refine ⟨⟨c, c1, ?_, h0⟩, ⟨t, e, t1, t2, t3, by rw [h3]; exact t4, ?_⟩, ?_, ?_, ?_, ?_, ?_, sq_OkR_c ?_ ?_ aR⟩
  · rw [h 0 (by unfold sq_ch; omega)]; exact c2
  · rw [h 2 (by unfold sq_ch; omega)]; exact t5
  · rw [h 5 (by unfold sq_ch; omega)]; exact a5
  · rw [h 6 (by unfold sq_ch; omega)]; exact a6
  · intro j hj; rw [h (8 + j) (by unfold sq_ch; omega)]; exact a8 j hj
  · intro v hv
    obtain ⟨b0, b1, b2, b3, b4⟩ := a24 v hv
    refine ⟨?_, ?_, ?_, hp v hv, hc v hv⟩
    · rw [h (24 + 5 * v) (by unfold sq_ch; omega)]; exact b0
    · rw [h (24 + 5 * v + 1) (by unfold sq_ch; omega)]; exact b1
    · rw [h (24 + 5 * v + 2) (by unfold sq_ch; omega)]; exact b2
  · intro r hr
    rw [h (54 + 3 * r) (by unfold sq_ch; omega), h (54 + 3 * r + 1) (by unfold sq_ch; omega), h (54 + 3 * r + 2) (by unfold sq_ch; omega)]
    exact a54 r hr
  · exact h 1 (by unfold sq_ch; omega)
  · intro j hj; exact h j (by unfold sq_ch; omega)
theorem sq_Ok_place {m : Nat → Int32} {v : Nat} {p : Int32} (ok : sq_Ok m) (hv : v < 6) (hp : sq_N p 15) : sq_Ok (upd m (24 + 5 * v + 3) p) := by
  have e : ∀ j, j ≠ 24 + 5 * v + 3 → upd m (24 + 5 * v + 3) p j = m j := fun j hj => ix_upn hj
  refine sq_Ok_pc ok (fun j hj => e j (by unfold sq_ch at hj; omega)) (e 3 (by omega)) (fun u hu => ?_) (fun u hu => ?_) (fun u hu hc => ?_)
  · by_cases h : u = v
    · subst h; rw [ix_ups]; exact hp
    · rw [e _ (by omega)]; exact (ok.2.2.2.2.2.1 u hu).2.2.2.1
  · rw [e _ (by omega)]; exact (ok.2.2.2.2.2.1 u hu).2.2.2.2
  · rw [e _ (by omega)]
    obtain ⟨c, c1, c2, c3⟩ := ok.1
    have hcn : sq_cn m = c := by unfold sq_cn; rw [c2, ix_nat (by omega)]
    exact c3 u hu (by omega)
theorem sq_Ok_caught {m : Nat → Int32} {v : Nat} {p : Int32} (ok : sq_Ok m) (hv : v < sq_cn m) (hp : sq_N p 1) : sq_Ok (upd m (24 + 5 * v + 4) p) := by
  have h6 := (sq_cn_ok ok).1
  have e : ∀ j, j ≠ 24 + 5 * v + 4 → upd m (24 + 5 * v + 4) p j = m j := fun j hj => ix_upn hj
  refine sq_Ok_pc ok (fun j hj => e j (by unfold sq_ch at hj; omega)) (e 3 (by omega)) (fun u hu => ?_) (fun u hu => ?_) (fun u hu hc => ?_)
  · rw [e _ (by omega)]; exact (ok.2.2.2.2.2.1 u hu).2.2.2.1
  · by_cases h : u = v
    · subst h; rw [ix_ups]; exact hp
    · rw [e _ (by omega)]; exact (ok.2.2.2.2.2.1 u hu).2.2.2.2
  · rw [e _ (by omega)]
    obtain ⟨c, c1, c2, c3⟩ := ok.1
    have hcn : sq_cn m = c := by unfold sq_cn; rw [c2, ix_nat (by omega)]
    exact c3 u hu (by omega)
/-- the class's sea when one place, a catch, the score or the turn is written -/
theorem sq_R_place {x x' : Nat → Nat → Int32} {m : Nat → Int32} {v : Nat} {p : Int32} (R : sq_R x 8 m) (hv : v < 6) (h : ∀ k, k ≠ 13 → x' k = x k) (hp : x' 13 = upd (x 13) v p) : sq_R x' 8 (upd m (24 + 5 * v + 3) p) := by
  obtain ⟨a0, a1, a2, a3, a4, a5, a6, a7, a8, a9, a10, a11⟩ := R
  have e : ∀ j, j ≠ 24 + 5 * v + 3 → upd m (24 + 5 * v + 3) p j = m j := fun j hj => ix_upn hj
  have ec : sq_cs (upd m (24 + 5 * v + 3) p) = sq_cs m := sq_cs_c (fun u hu => e _ (by omega))
  refine ⟨?_, ?_, ?_, ?_, ?_, ?_, ?_, ?_, ?_, ?_, ?_, sq_RR_c (e _ (by omega)) (fun j hj => e _ (by omega)) (fun k h1 h2 => h k (by omega)) a11⟩
  · rw [h 8 (by omega), e _ (by omega)]; exact a0
  · rw [h 8 (by omega), e _ (by omega)]; exact a1
  · rw [h 8 (by omega), e _ (by omega)]; exact a2
  · rw [h 8 (by omega), e _ (by omega)]; exact a3
  · rw [h 8 (by omega), e _ (by omega)]; exact a4
  · rw [h 8 (by omega), e _ (by omega)]; exact a5
  · rw [h 8 (by omega), ec]; exact a6
  · rw [h 8 (by omega), e _ (by omega)]; exact a7
  · intro j hj; rw [h (8 + 1) (by omega), e _ (by omega)]; exact a8 j hj
  · intro u hu
    obtain ⟨b0, b1, b2, b3⟩ := a9 u hu
    refine ⟨?_, ?_, ?_, ?_⟩
    · rw [h (8 + 2) (by omega), e _ (by omega)]; exact b0
    · rw [h (8 + 3) (by omega), e _ (by omega)]; exact b1
    · rw [h (8 + 4) (by omega), e _ (by omega)]; exact b2
    · show x' 13 u = _
      rw [hp, ix_up, ix_up]
      by_cases hu2 : u = v
      · rw [if_pos hu2, if_pos (by omega)]
      · rw [if_neg hu2, if_neg (by omega)]; exact b3
  · intro r hr
    rw [h (8 + 6) (by omega), h (8 + 7) (by omega), h (8 + 8) (by omega), e _ (by omega), e _ (by omega), e _ (by omega)]
    exact a10 r hr
/-- the class's sea when a cell of its own numbers is written -/
theorem sq_R_own {x x' : Nat → Nat → Int32} {m m' : Nat → Int32} (R : sq_R x 8 m) (h : ∀ k, k ≠ 8 → x' k = x k) (hm : ∀ j, (8 ≤ j ∧ ¬ sq_ch j) ∨ j = 1 → m' j = m j) (hp : ∀ v, v < 6 → m' (24 + 5 * v + 3) = m (24 + 5 * v + 3))
    (h0 : x' 8 0 = m' 3) (h1 : x' 8 1 = m' 2) (h2 : x' 8 2 = m' 5) (h3 : x' 8 3 = m' 4) (h4 : x' 8 4 = m' 7) (h5 : x' 8 5 = m' 0) (h6 : x' 8 6 = Int32.ofNat (sq_cs m')) (h7 : x' 8 7 = m' 6) : sq_R x' 8 m' := by
  obtain ⟨a0, a1, a2, a3, a4, a5, a6, a7, a8, a9, a10, a11⟩ := R
  refine ⟨h0, h1, h2, h3, h4, h5, h6, h7, ?_, ?_, ?_, sq_RR_c (hm 1 (Or.inr rfl)) (fun j hj => hm j (Or.inl ⟨by omega, by unfold sq_ch; omega⟩)) (fun k h1 h2 => h k (by omega)) a11⟩
  · intro j hj; rw [h (8 + 1) (by omega), hm _ (Or.inl ⟨by omega, by unfold sq_ch; omega⟩)]; exact a8 j hj
  · intro u hu
    obtain ⟨b0, b1, b2, b3⟩ := a9 u hu
    refine ⟨?_, ?_, ?_, ?_⟩
    · rw [h (8 + 2) (by omega), hm _ (Or.inl ⟨by omega, by unfold sq_ch; omega⟩)]; exact b0
    · rw [h (8 + 3) (by omega), hm _ (Or.inl ⟨by omega, by unfold sq_ch; omega⟩)]; exact b1
    · rw [h (8 + 4) (by omega), hm _ (Or.inl ⟨by omega, by unfold sq_ch; omega⟩)]; exact b2
    · rw [h (8 + 5) (by omega), hp u hu]; exact b3
  · intro r hr
    rw [h (8 + 6) (by omega), h (8 + 7) (by omega), h (8 + 8) (by omega), hm _ (Or.inl ⟨by omega, by unfold sq_ch; omega⟩), hm _ (Or.inl ⟨by omega, by unfold sq_ch; omega⟩), hm _ (Or.inl ⟨by omega, by unfold sq_ch; omega⟩)]
    exact a10 r hr
theorem sq_d1_ok {m : Nat → Int32} {v : Nat} (ok : sq_Ok m) (hv : v < 6) (ht : sq_tn m < 16) : sq_Ok (sq_d1 m v) := by
  refine sq_Ok_place ok hv ?_
  obtain ⟨p, hp, ep⟩ := (ok.2.2.2.2.2.1 v hv).2.2.2.1
  split
  · exact ⟨p, hp, ep⟩
  · obtain ⟨d, hd, ed⟩ := sq_dr_N (k := m (24 + 5 * v)) (st := m (24 + 5 * v + 2)) (t := m 3)
    rw [ep, ed]
    exact sq_to_N (ok.2.2.2.2.1 _ ht) hp hd
theorem sq_d1_n {m : Nat → Int32} {v j : Nat} (h : j ≠ 24 + 5 * v + 3) : sq_d1 m v j = m j := ix_upn h
theorem sq_dl_n : ∀ (l v : Nat) (m : Nat → Int32) {j : Nat}, (∀ u, u < 6 → j ≠ 24 + 5 * u + 3) → v + l ≤ 6 → sq_dl l v m j = m j := by
  intro l
  induction l with
  | zero => intro v m j _ _; rfl
  | succ l ih =>
    intro v m j h hl
    rw [sq_dl, ih (v + 1) _ h (by omega)]
    exact sq_d1_n (h v (by omega))
theorem sq_dl_ok : ∀ (l v : Nat) (m : Nat → Int32), sq_Ok m → sq_tn m < 16 → v + l ≤ 6 → sq_Ok (sq_dl l v m) := by
  intro l
  induction l with
  | zero => intro v m ok _ _; exact ok
  | succ l ih =>
    intro v m ok ht hl
    have e : sq_tn (sq_d1 m v) = sq_tn m := by unfold sq_tn; rw [sq_d1_n (by omega)]
    exact ih (v + 1) _ (sq_d1_ok ok (by omega) ht) (by rw [e]; exact ht) (by omega)
theorem sq_d_ok {m : Nat → Int32} (ok : sq_Ok m) (ht : sq_tn m < 16) : sq_Ok (sq_d m) := sq_dl_ok _ _ m ok ht (by have := (sq_cn_ok ok).1; omega)
theorem sq_d_n {m : Nat → Int32} (ok : sq_Ok m) {j : Nat} (h : ∀ u, u < 6 → j ≠ 24 + 5 * u + 3) : sq_d m j = m j := sq_dl_n _ _ m h (by have := (sq_cn_ok ok).1; omega)
/-- the model's drift: its loop goes on to what comes behind (k) -/
theorem mz_drift {a : Int32} : ∀ (l v f : Nat) (s : am_S), sq_Ok (s.1 83) → sq_tn (s.1 83) < 16 → v + l = sq_cn (s.1 83) → l < f → ∃ s', F_X12_goes_82_b2 f a (Int32.ofNat v) s = F_X12_goes_82_b2 (f - l) a (Int32.ofNat (v + l)) s' ∧ s'.1 83 = sq_dl l v (s.1 83) ∧ ix_Fr (fun q => q == 83) s s' := by
  intro l
  induction l with
  | zero => intro v f s _ _ _ _; exact ⟨s, rfl, rfl, ix_Fr.rf⟩
  | succ l ih =>
    intro v f s ok ht hl hf
    obtain ⟨f, rfl⟩ : ∃ g, f = g + 1 := ⟨f - 1, by omega⟩
    obtain ⟨hc, h0⟩ := sq_cn_ok ok
    obtain ⟨-, h3⟩ := sq_tn_ok ok
    have hv : v < 6 := by omega
    obtain ⟨s1, e1⟩ : ∃ s1, s1 = am_sI s 83 (24 + 5 * v + 3) (if s.1 83 (24 + 5 * v + 4) = 1 then s.1 83 (24 + 5 * v + 3) else sq_to (s.1 83 (8 + sq_tn (s.1 83))) (s.1 83 (24 + 5 * v + 3)) (sq_dr (s.1 83 (24 + 5 * v)) (s.1 83 (24 + 5 * v + 2)) (s.1 83 3))) := ⟨_, rfl⟩
    have e83 : s1.1 83 = sq_d1 (s.1 83) v := by rw [e1, ix_sIf]; rfl
    have f1 : ix_Fr (fun q => q == 83) s s1 := by rw [e1]; exact ix_Fr.I (by rfl)
    have ok1 : sq_Ok (s1.1 83) := by rw [e83]; exact sq_d1_ok ok hv ht
    have et : sq_tn (s1.1 83) = sq_tn (s.1 83) := by rw [e83]; unfold sq_tn; rw [sq_d1_n (by omega)]
    have ec : sq_cn (s1.1 83) = sq_cn (s.1 83) := by rw [e83]; unfold sq_cn; rw [sq_d1_n (by omega)]
    obtain ⟨s', i1, i2, i3⟩ := ih (v + 1) f s1 ok1 (by rw [et]; exact ht) (by rw [ec]; omega) (by omega)
    refine ⟨s', ?_, by rw [i2, e83]; rfl, f1.tr i3⟩
    have hstep : F_X12_goes_82_b2 (f + 1) a (Int32.ofNat v) s = F_X12_goes_82_b2 f a (Int32.ofNat (v + 1)) s1 := by
      rw [F_X12_goes_82_b2, if_pos (by decide)]
      have e0 : s.1 83 (0 : Int32).toNatClampNeg = Int32.ofNat (sq_cn (s.1 83)) := h0
      have ea : F_X12_at (Int32.ofNat v) 3 s = some (Int32.ofNat (24 + 5 * v + 3), s) := mz_at (w := 3)
      have e3 : s.1 83 (3 : Int32).toNatClampNeg = Int32.ofNat (sq_tn (s.1 83)) := h3
      rw [e0, if_neg (by rw [ix_le (by omega) (by omega)]; omega), ea, ix_b1, mz_its4 hv, ix_b1]
      dsimp only
      by_cases hca : s.1 83 (24 + 5 * v + 4) = 1
      · rw [if_pos hca] at e1
        rw [if_pos hca, mz_its3 hv, ix_b1, F_X12_goes_82_b61, if_pos ((ix_in (by omega)).mpr (by omega)), ix_nat (by omega), ix_b1, ix_addL, e1]
      · rw [if_neg hca] at e1
        rw [if_neg hca, mz_its3 hv, ix_b1, mz_drifts hv, ix_b1, if_pos (by decide)]
        dsimp only
        rw [e3, mz_driftsTo ht, ix_b1, F_X12_goes_82_b61, if_pos ((ix_in (by omega)).mpr (by omega)), ix_nat (by omega), ix_b1, ix_addL, e1]
    rw [hstep, i1, show f + 1 - (l + 1) = f - l by omega, show v + 1 + l = v + (l + 1) by omega]
theorem cz_e0 {st t : Int32} {s : am_S} : F_X10_drifts_2 st t s = some (sq_dr (Int32.ofNat 0) st t, s) := rfl
theorem cz_e1 {st t : Int32} {s : am_S} : F_X0_drifts_3 st t s = some (sq_dr (Int32.ofNat 1) st t, s) := rfl
theorem cz_e2 {st t : Int32} {s : am_S} : F_X5_drifts_4 st t s = some (sq_dr (Int32.ofNat 2) st t, s) := by
  show _ = some (sq_dr 2 st t, s)
  by_cases h5 : st ≤ 5
  · simp [F_X5_drifts_4, F_X10_drifts_4, sq_dr, h5]
  · simp [F_X5_drifts_4, F_X10_drifts_4, sq_dr, h5]
theorem cz_e3 {st : Int32} {n : Nat} {s : am_S} (hn : n < 17) : F_X4_drifts_5 st (Int32.ofNat n) s = some (sq_dr (Int32.ofNat 3) st (Int32.ofNat n), s) := by
  show _ = some (sq_dr 3 st (Int32.ofNat n), s)
  have ho := sq_odd n hn
  by_cases h5 : st ≤ 5
  · by_cases h6 : am_rem (Int32.ofNat n) 2 = 0
    · have h7 : ¬ (Int32.ofNat n &&& 1) = 1 := fun z => (ho.mp z) h6
      simp [F_X4_drifts_5, F_X5_drifts_5, F_X10_drifts_5, sq_dr, h5, h6, h7]
    · have h7 := ho.mpr h6
      simp [F_X4_drifts_5, F_X5_drifts_5, F_X10_drifts_5, sq_dr, h5, h6, h7]
  · by_cases h6 : am_rem (Int32.ofNat n) 2 = 0
    · have h7 : ¬ (Int32.ofNat n &&& 1) = 1 := fun z => (ho.mp z) h6
      simp [F_X4_drifts_5, F_X5_drifts_5, F_X10_drifts_5, sq_dr, h5, h6, h7]
    · have h7 := ho.mpr h6
      simp [F_X4_drifts_5, F_X5_drifts_5, F_X10_drifts_5, sq_dr, h5, h6, h7]
theorem cz_e4 {st t : Int32} {s : am_S} : F_X1_drifts_6 st t s = some (sq_dr (Int32.ofNat 4) st t, s) := rfl
theorem cz_e5 {st t : Int32} {s : am_S} : F_X2_drifts_7 st t s = some (sq_dr (Int32.ofNat 5) st t, s) := rfl
theorem cz_driftL : ∀ (l v f : Nat) (s : am_S) (m : Nat → Int32), sq_R s.1 8 m → sq_Ok m → sq_tn m < 16 → v + l = sq_cn m → l < f → ∃ s', F_X8_drift_8_b2 f (Int32.ofNat v) s = some s' ∧ sq_R s'.1 8 (sq_dl l v m) ∧ ix_Fr (fun q => q == 13) s s' := by
  intro l
  induction l with
  | zero =>
    intro v f s m R ok _ hl hf
    obtain ⟨f, rfl⟩ : ∃ g, f = g + 1 := ⟨f - 1, by omega⟩
    obtain ⟨hc, h0⟩ := sq_cn_ok ok
    refine ⟨s, ?_, R, ix_Fr.rf⟩
    rw [F_X8_drift_8_b2, R.2.2.2.2.2.1, h0, if_pos ((ix_le (by omega) (by omega)).mpr (by omega))]
  | succ l ih =>
    intro v f s m R ok ht hl hf
    obtain ⟨f, rfl⟩ : ∃ g, f = g + 1 := ⟨f - 1, by omega⟩
    obtain ⟨hc, h0⟩ := sq_cn_ok ok
    obtain ⟨-, h3⟩ := sq_tn_ok ok
    have hv : v < 6 := by omega
    have ok1 := sq_d1_ok ok hv ht
    have et : sq_tn (sq_d1 m v) = sq_tn m := by unfold sq_tn; rw [sq_d1_n (by omega)]
    have ec : sq_cn (sq_d1 m v) = sq_cn m := by unfold sq_cn; rw [sq_d1_n (by omega)]
    rw [F_X8_drift_8_b2, R.2.2.2.2.2.1, h0, if_neg (by rw [ix_le (by omega) (by omega)]; omega), cz_caught R ok hv, ix_b1]
    dsimp only
    obtain ⟨n, hn, en⟩ := (ok.2.2.2.2.2.1 v hv).2.2.2.2
    have hn2 : n = 0 ∨ n = 1 := by omega
    rcases hn2 with rfl | rfl
    · obtain ⟨p, hp, ep⟩ := (ok.2.2.2.2.2.1 v hv).2.2.2.1
      obtain ⟨d, hd, ed⟩ := sq_dr_N (k := m (24 + 5 * v)) (st := m (24 + 5 * v + 2)) (t := m 3)
      obtain ⟨k, hk, ek, hth⟩ := cz_thing R ok hv
      have e1 : sq_d1 m v = upd m (24 + 5 * v + 3) (sq_to (m (8 + sq_tn m)) (Int32.ofNat p) (Int32.ofNat d)) := by
        unfold sq_d1; rw [en, if_neg (by decide), ep, ed]
      have R1 : sq_R (am_sI s 13 v (sq_to (m (8 + sq_tn m)) (Int32.ofNat p) (Int32.ofNat d))).1 8 (sq_d1 m v) := by
        rw [e1]
        exact sq_R_place R hv (fun k hk => ix_sIn hk) ix_sIf
      have hfin : ∃ s', F_X8_drift_8_b56 (F_X8_drift_8_b2 f) (Int32.ofNat v) (am_sI s 13 v (sq_to (m (8 + sq_tn m)) (Int32.ofNat p) (Int32.ofNat d))) = some s' ∧ sq_R s'.1 8 (sq_dl (l + 1) v m) ∧ ix_Fr (fun q => q == 13) s s' := by
        rw [F_X8_drift_8_b56, ix_addL]
        obtain ⟨s', i1, i2, i3⟩ := ih (v + 1) f _ _ R1 ok1 (by rw [et]; exact ht) (by rw [ec]; omega) (by omega)
        exact ⟨s', i1, i2, (ix_Fr.I (by rfl)).tr i3⟩
      have hs0 : s.1 8 0 = Int32.ofNat (sq_tn m) := by rw [R.1, h3]
      rw [ek, h3] at ed
      rw [en, if_pos (by decide), if_pos (cz_inv hv), hth, ix_b1, if_pos (cz_inv hv)]
      dsimp only
      simp (disch := omega) only [ix_nat]
      rw [cz_place R hv, cz_str R hv, hs0, ep]
      rcases sq_six hk with rfl | rfl | rfl | rfl | rfl | rfl
      · rw [if_pos rfl, cz_e0, ix_b1]
        dsimp only
        rw [ed, hs0, cz_drifted R ok ht hp hd, ix_b1, if_pos (cz_inv hv), ix_b1]
        dsimp only
        exact hfin
      · rw [if_neg (by decide), if_pos rfl, cz_e1, ix_b1]
        dsimp only
        rw [ed, hs0, cz_drifted R ok ht hp hd, ix_b1, if_pos (cz_inv hv), ix_b1]
        dsimp only
        exact hfin
      · rw [if_neg (by decide), if_neg (by decide), if_pos rfl, cz_e2, ix_b1]
        dsimp only
        rw [ed, hs0, cz_drifted R ok ht hp hd, ix_b1, if_pos (cz_inv hv), ix_b1]
        dsimp only
        exact hfin
      · rw [if_neg (by decide), if_neg (by decide), if_neg (by decide), if_pos rfl, cz_e3 (by omega), ix_b1]
        dsimp only
        rw [ed, hs0, cz_drifted R ok ht hp hd, ix_b1, if_pos (cz_inv hv), ix_b1]
        dsimp only
        exact hfin
      · rw [if_neg (by decide), if_neg (by decide), if_neg (by decide), if_neg (by decide), if_pos rfl, cz_e4, ix_b1]
        dsimp only
        rw [ed, hs0, cz_drifted R ok ht hp hd, ix_b1, if_pos (cz_inv hv), ix_b1]
        dsimp only
        exact hfin
      · rw [if_neg (by decide), if_neg (by decide), if_neg (by decide), if_neg (by decide), if_neg (by decide), cz_e5, ix_b1]
        dsimp only
        rw [ed, hs0, cz_drifted R ok ht hp hd, ix_b1, if_pos (cz_inv hv), ix_b1]
        dsimp only
        exact hfin
    · rw [en, if_neg (by decide), F_X8_drift_8_b56, ix_addL]
      have e1 : sq_d1 m v = m := by
        unfold sq_d1; rw [en, if_pos (by decide)]; exact ix_upself
      have R1 : sq_R s.1 8 (sq_d1 m v) := by rw [e1]; exact R
      exact ih (v + 1) f _ _ R1 ok1 (by rw [et]; exact ht) (by rw [ec]; omega) (by omega)
theorem cz_driftAll {s : am_S} {m : Nat → Int32} (R : sq_R s.1 8 m) (ok : sq_Ok m) (ht : sq_tn m < 16) : ∃ s', F_X8_drift_8 s = some s' ∧ sq_R s'.1 8 (sq_d m) ∧ ix_Fr (fun q => q == 13) s s' :=
  cz_driftL (sq_cn m) 0 1000 s m R ok ht (by omega) (by have := (sq_cn_ok ok).1; omega)
