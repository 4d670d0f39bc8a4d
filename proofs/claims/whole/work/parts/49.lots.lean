/-! LAYER 2: meshFor, placeFor, lot, times agree (written by wip/whole/l2/gen49.py) -/
def sq_mf (m : Nat → Int32) (a : Nat) : Nat → Nat → Int32 → Int32 → Int32
  | 0, _, b, _ => b
  | l + 1, x, b, w => if (sq_rs 16 (upd m a (Int32.ofNat x)) 0).2 ≤ w then sq_mf m a l (x + 1) b w else sq_mf m a l (x + 1) (Int32.ofNat x) (sq_rs 16 (upd m a (Int32.ofNat x)) 0).2
theorem ix_upup {m : Nat → Int32} {k : Nat} {x y : Int32} : upd (upd m k x) k y = upd m k y := by
  funext j; rw [ix_up, ix_up, ix_up]; split
  · rfl
  · rfl
theorem ix_upret {m : Nat → Int32} {k : Nat} {x : Int32} : upd (upd m k x) k (m k) = m := by rw [ix_upup, ix_upself]
theorem mz_mostL {m : Nat → Int32} {a h : Nat} (ha : a < 296) (hh : h < 100) (hok : ∀ x, x ≤ h → sq_Ok (upd m a (Int32.ofNat x))) : ∀ (l x f : Nat) (s : am_S) (b w y : Int32), s.1 83 = upd m a y → x + l = h + 1 → l < f → ∃ s', F_X12_mostFor_82_b16 f (Int32.ofNat a) (Int32.ofNat h) (m a) b w (Int32.ofNat x) s = some (sq_mf m a l x b w, s') ∧ s'.1 83 = m ∧ ix_Fr sq_pM s s' := by
  intro l
  induction l with
  | zero =>
    intro x f s b w y hs hl hf
    obtain ⟨f, rfl⟩ : ∃ g, f = g + 1 := ⟨f - 1, by omega⟩
    refine ⟨am_sI s 83 a (m a), ?_, by rw [ix_sIf, hs, ix_upret], ix_Fr.I (by rfl)⟩
    rw [F_X12_mostFor_82_b16, if_pos (by rw [ix_lt (by omega) (by omega)]; omega), if_pos ((ix_in (by omega)).mpr ha), ix_nat (by omega), ix_b1]
    rfl
  | succ l ih =>
    intro x f s b w y hs hl hf
    obtain ⟨f, rfl⟩ : ∃ g, f = g + 1 := ⟨f - 1, by omega⟩
    have e1 : (am_sI s 83 a (Int32.ofNat x)).1 83 = upd m a (Int32.ofNat x) := by rw [ix_sIf, hs, ix_upup]
    obtain ⟨s1, r1, r2, r3⟩ := mz_restTried (s := am_sI s 83 a (Int32.ofNat x)) (n := 16) (by rw [e1]; exact hok x (by omega)) (by omega)
    rw [e1] at r1 r2
    have r1' : F_X12_restTried_82 16 (am_sI s 83 a (Int32.ofNat x)) = _ := r1
    rw [F_X12_mostFor_82_b16, if_neg (by rw [ix_lt (by omega) (by omega)]; omega), if_pos ((ix_in (by omega)).mpr ha), ix_nat (by omega), ix_b1, r1', ix_b1, sq_mf]
    dsimp only
    rw [F_X12_mostFor_82_b52, F_X12_mostFor_82_b52, F_X12_mostFor_82_b68, F_X12_mostFor_82_b68, F_X12_mostFor_82_b68, F_X12_mostFor_82_b68, ix_addL]
    by_cases hc : (sq_rs 16 (upd m a (Int32.ofNat x)) 0).2 ≤ w
    · rw [if_pos hc, if_pos hc, if_pos hc]
      obtain ⟨s', i1, i2, i3⟩ := ih (x + 1) f s1 b w _ r2 (by omega) (by omega)
      exact ⟨s', i1, i2, ((ix_Fr.I (by rfl)).tr r3).tr i3⟩
    · rw [if_neg hc, if_neg hc, if_neg hc]
      obtain ⟨s', i1, i2, i3⟩ := ih (x + 1) f s1 (Int32.ofNat x) _ _ r2 (by omega) (by omega)
      exact ⟨s', i1, i2, ((ix_Fr.I (by rfl)).tr r3).tr i3⟩
theorem mz_most {s : am_S} {a h : Nat} (ha : a < 296) (hh : h < 100) (hok : ∀ x, x ≤ h → sq_Ok (upd (s.1 83) a (Int32.ofNat x))) : ∃ s', F_X12_mostFor_82 (Int32.ofNat a) (Int32.ofNat h) s = some (sq_mf (s.1 83) a (h + 1) 0 0 (-1), s') ∧ s'.1 83 = s.1 83 ∧ ix_Fr sq_pM s s' := by
  obtain ⟨s', i1, i2, i3⟩ := mz_mostL ha hh hok (h + 1) 0 1000 s 0 (-1) (s.1 83 a) ix_upself.symm (by omega) (by omega)
  refine ⟨s', ?_, i2, i3⟩
  unfold F_X12_mostFor_82
  rw [if_pos ((ix_in (by omega)).mpr ha), ix_nat (by omega)]
  exact i1
theorem cz_meshL {m : Nat → Int32} (hok : ∀ x, x ≤ 9 → sq_Ok (upd m 5 (Int32.ofNat x))) : ∀ (l x f : Nat) (s : am_S) (b w y : Int32), sq_R s.1 8 (upd m 5 y) → x + l = 10 → l < f → ∃ s', F_X3_bestMesh_50_b15 f (m 5) b w (Int32.ofNat x) s = some (sq_mf m 5 l x b w, s') ∧ sq_R s'.1 8 m ∧ ix_Fr sq_pC s s' := by
  intro l
  induction l with
  | zero =>
    intro x f s b w y R hl hf
    obtain ⟨f, rfl⟩ : ∃ g, f = g + 1 := ⟨f - 1, by omega⟩
    have R1 := sq_R_up (k := 8) (i := 2) (a := 5) (y := m 5) R (by unfold sq_mp; omega)
    rw [ix_upret] at R1
    refine ⟨am_sI s 8 2 (m 5), ?_, R1, ix_Fr.I (by rfl)⟩
    rw [F_X3_bestMesh_50_b15, if_pos (by rw [ix_Llt (by omega) (by omega)]; omega), ix_b1]
    rfl
  | succ l ih =>
    intro x f s b w y R hl hf
    obtain ⟨f, rfl⟩ : ∃ g, f = g + 1 := ⟨f - 1, by omega⟩
    have R1 := sq_R_up (k := 8) (i := 2) (a := 5) (y := Int32.ofNat x) R (by unfold sq_mp; omega)
    rw [ix_upup] at R1
    obtain ⟨s1, r1, r2, r3⟩ := cz_rest R1 (hok x (by omega)) (n := 16) (by omega)
    have r1' : F_X3_worthOfRest_50 16 (am_sI s 8 2 (Int32.ofNat x)) = _ := r1
    rw [F_X3_bestMesh_50_b15, if_neg (by rw [ix_Llt (by omega) (by omega)]; omega), ix_b1, r1', ix_b1, sq_mf]
    dsimp only
    rw [F_X3_bestMesh_50_b51, F_X3_bestMesh_50_b51, ix_addL]
    by_cases hc : (sq_rs 16 (upd m 5 (Int32.ofNat x)) 0).2 ≤ w
    · rw [if_pos hc, if_pos hc]
      obtain ⟨s', i1, i2, i3⟩ := ih (x + 1) f s1 b w _ r2 (by omega) (by omega)
      exact ⟨s', i1, i2, ((ix_Fr.I (by rfl)).tr r3).tr i3⟩
    · rw [if_neg hc, if_neg hc]
      obtain ⟨s', i1, i2, i3⟩ := ih (x + 1) f s1 (Int32.ofNat x) _ _ r2 (by omega) (by omega)
      exact ⟨s', i1, i2, ((ix_Fr.I (by rfl)).tr r3).tr i3⟩
theorem cz_place2L {m : Nat → Int32} {v : Nat} (hv : v < 6) (hok : ∀ x, x ≤ 15 → sq_Ok (upd m (24 + 5 * v + 3) (Int32.ofNat x))) : ∀ (l x f : Nat) (s : am_S) (b w y : Int32), sq_R s.1 8 (upd m (24 + 5 * v + 3) y) → x + l = 16 → l < f → ∃ s', F_X3_bestPlace_50_b18 f (Int32.ofNat v) (m (24 + 5 * v + 3)) b w (Int32.ofNat x) s = some (sq_mf m (24 + 5 * v + 3) l x b w, s') ∧ sq_R s'.1 8 m ∧ ix_Fr sq_pC s s' := by
  intro l
  induction l with
  | zero =>
    intro x f s b w y R hl hf
    obtain ⟨f, rfl⟩ : ∃ g, f = g + 1 := ⟨f - 1, by omega⟩
    have R1 := sq_R_up (k := 13) (i := v) (a := (24 + 5 * v + 3)) (y := m (24 + 5 * v + 3)) R (by unfold sq_mp; omega)
    rw [ix_upret] at R1
    refine ⟨am_sI s 13 v (m (24 + 5 * v + 3)), ?_, R1, ix_Fr.I (by rfl)⟩
    rw [F_X3_bestPlace_50_b18, if_pos (by rw [ix_Llt (by omega) (by omega)]; omega), if_pos (cz_inv hv), ix_nat (by omega), ix_b1]
    rfl
  | succ l ih =>
    intro x f s b w y R hl hf
    obtain ⟨f, rfl⟩ : ∃ g, f = g + 1 := ⟨f - 1, by omega⟩
    have R1 := sq_R_up (k := 13) (i := v) (a := (24 + 5 * v + 3)) (y := Int32.ofNat x) R (by unfold sq_mp; omega)
    rw [ix_upup] at R1
    obtain ⟨s1, r1, r2, r3⟩ := cz_rest R1 (hok x (by omega)) (n := 16) (by omega)
    have r1' : F_X3_worthOfRest_50 16 (am_sI s 13 v (Int32.ofNat x)) = _ := r1
    rw [F_X3_bestPlace_50_b18, if_neg (by rw [ix_Llt (by omega) (by omega)]; omega), if_pos (cz_inv hv), ix_nat (by omega), ix_b1, r1', ix_b1, sq_mf]
    dsimp only
    rw [F_X3_bestPlace_50_b58, F_X3_bestPlace_50_b58, ix_addL]
    by_cases hc : (sq_rs 16 (upd m (24 + 5 * v + 3) (Int32.ofNat x)) 0).2 ≤ w
    · rw [if_pos hc, if_pos hc]
      obtain ⟨s', i1, i2, i3⟩ := ih (x + 1) f s1 b w _ r2 (by omega) (by omega)
      exact ⟨s', i1, i2, ((ix_Fr.I (by rfl)).tr r3).tr i3⟩
    · rw [if_neg hc, if_neg hc]
      obtain ⟨s', i1, i2, i3⟩ := ih (x + 1) f s1 (Int32.ofNat x) _ _ r2 (by omega) (by omega)
      exact ⟨s', i1, i2, ((ix_Fr.I (by rfl)).tr r3).tr i3⟩
theorem ag_meshFor : jz_A F_X11_meshFor_0 F_X12_meshFor_82 := by
  intro s j
  obtain ⟨ok, R⟩ := j.1
  have hok : ∀ x, x ≤ 9 → sq_Ok (upd (s.1 83) 5 (Int32.ofNat x)) := fun x hx => sq_Ok_up ok (by omega) (fun _ => ⟨x, hx, rfl⟩) (fun h => by omega) (fun _ _ => by omega) (fun u hu => ⟨fun h => by omega, fun h => by omega, fun h => by omega, fun h => by omega, by omega⟩) (fun h => by omega)
  obtain ⟨s1, c1, c2, c3⟩ := cz_meshL hok 10 0 1000 s 0 (-1) (s.1 83 5) (by rw [ix_upself]; exact R) (by omega) (by omega)
  have h83 : s1.1 83 = s.1 83 := sq_pC8 c3 83 (by omega)
  obtain ⟨s2, d1, d2, d3⟩ := mz_most (s := s1) (a := 5) (h := 9) (by omega) (by omega) (by rw [h83]; exact hok)
  rw [h83] at d1 d2
  refine ⟨sq_mf (s.1 83) 5 10 0 0 (-1), s1, s2, ?_, ?_, jz_cm j c2 c3 d3 d2 ok⟩
  · unfold F_X11_meshFor_0 F_X3_bestMesh_50
    rw [R.2.2.1]
    have c1' : F_X3_bestMesh_50_b15 1000 (s.1 83 5) 0 (-1) 0 s = _ := c1
    rw [c1']
    rfl
  · unfold F_X12_meshFor_82
    have d1' : F_X12_mostFor_82 5 9 s1 = _ := d1
    rw [d1']
    rfl
theorem ag_placeFor {a : Int32} : jz_A (F_X11_placeFor_0 a) (F_X12_placeFor_82 a) := by
  intro s j
  obtain ⟨ok, R⟩ := j.1
  by_cases h1 : 0 ≤ a ∧ a < s.1 83 0
  rotate_left
  · exact jz_A0 (v := -1) j (by simp only [F_X11_placeFor_0, cz_has R, if_neg h1, ix_b1, ix_10, ix_00, if_true, if_false]) (by simp only [F_X12_placeFor_82, mz_isVoice ok, if_neg h1, ix_b1, ix_10, ix_00, if_true, if_false])
  obtain ⟨v, hv, hv6, rfl⟩ := sq_isv ok h1
  have hok : ∀ x, x ≤ 15 → sq_Ok (upd (s.1 83) (24 + 5 * v + 3) (Int32.ofNat x)) := fun x hx => sq_Ok_place ok hv6 ⟨x, hx, rfl⟩
  obtain ⟨s1, c1, c2, c3⟩ := cz_place2L hv6 hok 16 0 1000 s 0 (-1) (s.1 83 (24 + 5 * v + 3)) (by rw [ix_upself]; exact R) (by omega) (by omega)
  have h83 : s1.1 83 = s.1 83 := sq_pC8 c3 83 (by omega)
  obtain ⟨s2, d1, d2, d3⟩ := mz_most (s := s1) (a := 24 + 5 * v + 3) (h := 15) (by omega) (by omega) (by rw [h83]; exact hok)
  rw [h83] at d1 d2
  have hiv : F_X12_isVoice_82 (Int32.ofNat v) s1 = some (1, s1) := by
    have hi := mz_isVoice (x := Int32.ofNat v) (s := s1) (by rw [h83]; exact ok)
    rw [h83, if_pos h1] at hi
    exact hi
  refine ⟨sq_mf (s.1 83) (24 + 5 * v + 3) 16 0 0 (-1), s1, s2, ?_, ?_, jz_cm j c2 c3 d3 d2 ok⟩
  · unfold F_X11_placeFor_0 F_X3_bestPlace_50
    rw [cz_has R, if_pos h1, ix_b1, if_neg (show ¬ (1 : Int32) = 0 by decide), if_pos (cz_inv hv6), ix_nat (by omega)]
    dsimp only
    rw [cz_place R hv6]
    have c1' : F_X3_bestPlace_50_b18 1000 (Int32.ofNat v) (s.1 83 (24 + 5 * v + 3)) 0 (-1) 0 s = _ := c1
    rw [c1']
    rfl
  · unfold F_X12_placeFor_82
    have ea : F_X12_at (Int32.ofNat v) 3 s1 = some (Int32.ofNat (24 + 5 * v + 3), s1) := mz_at (w := 3)
    rw [hiv, ix_b1, if_neg (show ¬ (1 : Int32) = 0 by decide)]
    dsimp only
    rw [ea, ix_b1]
    have d1' : F_X12_mostFor_82 (Int32.ofNat (24 + 5 * v + 3)) 15 s1 = _ := d1
    dsimp only
    rw [d1']
    rfl
/-! lots -/
def sq_z7 (m : Nat → Int32) : Nat → Int32 := upd m 7 (m 7 * 1103515245 + 12345)
/-- the act by lot, behind the new z -/
def sq_lt (m : Nat → Int32) : Nat := (am_rem (am_ushr (m 7) 16) (m 0 + 1)).toNatClampNeg
theorem ix_toInt_u (x : UInt32) (h : x.toNat < 2147483648) : x.toInt32 = Int32.ofNat x.toNat := by
  apply Int32.toBitVec_inj.mp
  show x.toBitVec = BitVec.ofNat 32 x.toNat
  apply BitVec.eq_of_toNat_eq
  rw [BitVec.toNat_ofNat]
  show x.toNat = x.toNat % _
  omega
theorem sq_ushr (x : Int32) : ∃ n, n < 65536 ∧ am_ushr x 16 = Int32.ofNat n := by
  unfold am_ushr
  have e : (x.toUInt32 >>> ((16 : Int32).toUInt32 &&& Int32.toUInt32 31)).toNat = x.toUInt32.toNat >>> 16 := by
    rw [UInt32.toNat_shiftRight]; rfl
  have h : x.toUInt32.toNat >>> 16 < 65536 := by
    rw [Nat.shiftRight_eq_div_pow]
    have := x.toUInt32.toNat_lt
    omega
  exact ⟨_, h, by rw [← e]; exact ix_toInt_u _ (by rw [e]; omega)⟩
theorem sq_rem {n c : Nat} (hn : n < 65536) (hc : c ≤ 6) : am_rem (Int32.ofNat n) (Int32.ofNat (c + 1)) = Int32.ofNat (n % (c + 1)) := by
  unfold am_rem
  rw [← Int32.ofNat_div (by omega) (by omega), ix_mul, ix_sub _ _ (Nat.div_mul_le_self n (c + 1))]
  congr 1
  have := Nat.div_add_mod n (c + 1)
  rw [Nat.mul_comm] at this
  omega
theorem sq_lt_ok {m : Nat → Int32} (ok : sq_Ok m) : sq_lt m ≤ sq_cn m ∧ am_rem (am_ushr (m 7) 16) (m 0 + 1) = Int32.ofNat (sq_lt m) := by
  obtain ⟨hc, h0⟩ := sq_cn_ok ok
  obtain ⟨n, hn, e⟩ := sq_ushr (m 7)
  have h : am_rem (am_ushr (m 7) 16) (m 0 + 1) = Int32.ofNat (n % (sq_cn m + 1)) := by
    rw [e, h0, ix_addL]
    have := sq_rem (n := n) hn hc
    unfold sq_cn at this ⊢
    exact this
  have hl : n % (sq_cn m + 1) < sq_cn m + 1 := Nat.mod_lt _ (by omega)
  have e2 : sq_lt m = n % (sq_cn m + 1) := by unfold sq_lt; rw [h, ix_nat (by omega)]
  exact ⟨by omega, by rw [e2]; exact h⟩
theorem sq_z7_ok {m : Nat → Int32} (ok : sq_Ok m) : sq_Ok (sq_z7 m) := sq_Ok_up ok (by omega) (fun h => by omega) (fun h => by omega) (fun _ _ => by omega) (fun u hu => ⟨fun h => by omega, fun h => by omega, fun h => by omega, fun h => by omega, by omega⟩) (fun h => by omega)
theorem sq_z7_n {m : Nat → Int32} {j : Nat} (h : j ≠ 7) : sq_z7 m j = m j := ix_upn h
theorem cz_draw {s : am_S} {m : Nat → Int32} (R : sq_R s.1 8 m) (ok : sq_Ok m) : ∃ s', F_X8_drawLot_8 s = some (Int32.ofNat (sq_lt (sq_z7 m)), s') ∧ sq_R s'.1 8 (sq_z7 m) ∧ ix_Fr (fun q => q == 8) s s' := by
  have R1 := sq_R_up (k := 8) (i := 4) (a := 7) (y := m 7 * 1103515245 + 12345) R (by unfold sq_mp; omega)
  have ok1 := sq_z7_ok ok
  obtain ⟨hl, he⟩ := sq_lt_ok ok1
  obtain ⟨hc, h0⟩ := sq_cn_ok ok1
  refine ⟨am_sI s 8 4 (m 7 * 1103515245 + 12345), ?_, R1, ix_Fr.I (by rfl)⟩
  unfold F_X8_drawLot_8
  have e4 : s.1 8 4 = m 7 := R.2.2.2.2.1
  have R1' : sq_R (am_sI s 8 4 (m 7 * 1103515245 + 12345)).1 8 (sq_z7 m) := R1
  have e41 : (am_sI s 8 4 (m 7 * 1103515245 + 12345)).1 8 4 = sq_z7 m 7 := R1'.2.2.2.2.1
  have e51 : (am_sI s 8 4 (m 7 * 1103515245 + 12345)).1 8 5 = sq_z7 m 0 := R1'.2.2.2.2.2.1
  rw [e4, ix_b1, e51, e41, he]
  have e1 : sq_z7 m 0 + 1 = Int32.ofNat (sq_cn (sq_z7 m) + 1) := by rw [h0, ix_addL]
  rw [e1, if_neg (by rw [ix_leL (by omega) (by omega)]; omega), if_pos (by rw [ix_eqL (by omega) (by omega)]; omega)]
/-- a turn by lot -/
def sq_lg (m : Nat → Int32) : (Nat → Int32) × Int32 := sq_go (sq_z7 m) (sq_lt (sq_z7 m))
theorem sq_lg_ok {m : Nat → Int32} (ok : sq_Ok m) (h : m 3 < m 2) : sq_Ok (sq_lg m).1 ∧ (∀ j, ¬ sq_ch j → j ≠ 7 → (sq_lg m).1 j = m j) ∧ (sq_lg m).1 7 = sq_z7 m 7 ∧ (sq_lg m).1 3 = m 3 + 1 ∧ ∃ n, n ≤ 108 ∧ (sq_lg m).2 = Int32.ofNat n := by
  obtain ⟨g1, g2, g3, g4⟩ := sq_go_ok (a := sq_lt (sq_z7 m)) (sq_z7_ok ok) (by rw [sq_z7_n (by omega), sq_z7_n (by omega)]; exact h)
  refine ⟨g1, fun j hj h7 => ?_, g2 7 (by unfold sq_ch; omega), ?_, g4⟩
  · have := g2 j hj
    rw [sq_z7_n h7] at this
    exact this
  · have := g3
    rw [sq_z7_n (by omega)] at this
    exact this
theorem cz_lg {s : am_S} {m : Nat → Int32} (R : sq_R s.1 8 m) (ok : sq_Ok m) (h : m 3 < m 2) : ∃ s1 s2, F_X8_drawLot_8 s = some (Int32.ofNat (sq_lt (sq_z7 m)), s1) ∧ F_X8_goBy_8 (Int32.ofNat (sq_lt (sq_z7 m))) s1 = some ((sq_lg m).2, s2) ∧ sq_R s2.1 8 (sq_lg m).1 ∧ ix_Fr (fun q => q == 8 || q == 13 || q == 23) s s2 := by
  obtain ⟨s1, d1, d2, d3⟩ := cz_draw R ok
  obtain ⟨s2, g1, g2, g3⟩ := cz_goBy (a := sq_lt (sq_z7 m)) d2 (sq_z7_ok ok) (by rw [sq_z7_n (by omega), sq_z7_n (by omega)]; exact h) (sq_lt_ok (sq_z7_ok ok)).1
  exact ⟨s1, s2, d1, g1, g2, (d3.wd (fun k hk => by simp at hk ⊢; exact hk.1.1)).tr g3⟩
theorem mz_lg {s : am_S} (ok : sq_Ok (s.1 83)) (h : s.1 83 3 < s.1 83 2) : ∃ s', F_X12_byLot_82 s = some ((sq_lg (s.1 83)).2, s') ∧ s'.1 83 = (sq_lg (s.1 83)).1 ∧ ix_Fr (fun q => q == 83 || q == 86) s s' := by
  have e83 : (am_sI s 83 7 (s.1 83 7 * 1103515245 + 12345)).1 83 = sq_z7 (s.1 83) := ix_sIf
  have ok1 := sq_z7_ok ok
  have h' : sq_z7 (s.1 83) 3 < sq_z7 (s.1 83) 2 := by rw [sq_z7_n (by omega), sq_z7_n (by omega)]; exact h
  obtain ⟨hl, he⟩ := sq_lt_ok ok1
  obtain ⟨hc, h0⟩ := sq_cn_ok ok1
  obtain ⟨s', g1, g2, g3⟩ := mz_goes (s := am_sI s 83 7 (s.1 83 7 * 1103515245 + 12345)) (a := sq_lt (sq_z7 (s.1 83))) (by rw [e83]; exact ok1) (by rw [e83]; exact sq_lt16 ok1 h') (by rw [e83]; exact hl)
  rw [e83] at g1 g2
  refine ⟨s', ?_, g2, (ix_Fr.I (by rfl)).tr g3⟩
  unfold F_X12_byLot_82
  have i7 : ∀ t : am_S, t.1 83 (7 : Int32).toNatClampNeg = t.1 83 7 := fun _ => rfl
  have i0 : ∀ t : am_S, t.1 83 (0 : Int32).toNatClampNeg = t.1 83 0 := fun _ => rfl
  have n7 : (7 : Int32).toNatClampNeg = 7 := rfl
  rw [if_pos ix_k7, if_pos ix_k7]
  simp only [i7, n7, i0]
  rw [ix_b1, if_pos ix_k7, if_pos ix_k0, e83, he]
  have e1 : sq_z7 (s.1 83) 0 + 1 = Int32.ofNat (sq_cn (sq_z7 (s.1 83)) + 1) := by rw [h0, ix_addL]
  rw [if_pos (by rw [e1, show (0 : Int32) = Int32.ofNat 0 from rfl, ix_eq (by omega) (by omega)]; omega), g1]
  rfl
theorem ag_lot : jz_A F_X11_lot_0 F_X12_lot_82 := by
  intro s j
  obtain ⟨ok, R⟩ := j.1
  by_cases h : s.1 83 3 < s.1 83 2
  · obtain ⟨s0, s1, d1, g1, g2, g3⟩ := cz_lg R ok h
    have f1 : ix_Fr sq_pC s s1 := g3.wd (fun k hk => by unfold sq_pC at hk; simp at hk ⊢; omega)
    have h83 : s1.1 83 = s.1 83 := sq_pC8 f1 83 (by omega)
    obtain ⟨s2, u1, u2, u3⟩ := mz_lg (s := s1) (by rw [h83]; exact ok) (by rw [h83]; exact h)
    rw [h83] at u1 u2
    refine ⟨(sq_lg (s.1 83)).2, s1, s2, ?_, ?_, jz_cm j g2 f1 (u3.wd (fun k hk => by unfold sq_pM at hk; simp at hk ⊢; omega)) u2 (sq_lg_ok ok h).1⟩
    · unfold F_X11_lot_0
      rw [cz_over R ok, if_pos h, ix_b1]
      dsimp only
      rw [if_pos rfl, d1, ix_b1, g1]
      rfl
    · unfold F_X12_lot_82
      rw [mz_over, h83, if_pos h, ix_b1]
      dsimp only
      rw [if_pos rfl, u1]
      rfl
  · refine jz_A0 (v := -4) j ?_ ?_
    · unfold F_X11_lot_0
      rw [cz_over R ok, if_neg h]; rfl
    · unfold F_X12_lot_82
      rw [mz_over, if_neg h]; rfl
