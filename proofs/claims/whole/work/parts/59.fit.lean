/-! LAYER 2: span, liar agree (written by wip/whole/l2/gen59.py) -/
def sq_bfn (b : Nat → Bool) : Nat → Nat
  | 0 => 0
  | n + 1 => sq_bfn b n ||| (if b n = true then 2 ^ n else 0)
theorem sq_bfn_t (b : Nat → Bool) (v : Nat) : ∀ n, (sq_bfn b n).testBit v = (decide (v < n) && b v) := by
  intro n
  induction n with
  | zero => simp [sq_bfn]
  | succ n ih =>
    rw [sq_bfn, Nat.testBit_or, ih]
    by_cases hb : b n = true
    · rw [if_pos hb, Nat.testBit_two_pow]
      by_cases hv : v = n
      · subst hv; simp [hb]
      · have e : decide (n = v) = false := decide_eq_false (fun z => hv z.symm)
        have e2 : decide (v < n + 1) = decide (v < n) := by congr 1; apply propext; omega
        rw [e, Bool.or_false, e2]
    · rw [if_neg hb, Nat.zero_testBit, Bool.or_false]
      by_cases hv : v = n
      · subst hv; simp [Bool.eq_false_iff.mpr hb]
      · have e2 : decide (v < n + 1) = decide (v < n) := by congr 1; apply propext; omega
        rw [e2]
theorem sq_bfn_lt (b : Nat → Bool) : ∀ n, sq_bfn b n < 2 ^ n := by
  intro n
  induction n with
  | zero => simp [sq_bfn]
  | succ n ih =>
    rw [sq_bfn]
    refine Nat.or_lt_two_pow ?_ ?_
    · exact Nat.lt_of_lt_of_le ih (Nat.pow_le_pow_right (by decide) (by omega))
    · split
      · exact Nat.pow_lt_pow_right (by decide) (by omega)
      · exact Nat.two_pow_pos _
theorem sq_ext6 {x y : Nat} (hx : x < 64) (hy : y < 64) (h : ∀ v, v < 6 → x.testBit v = y.testBit v) : x = y := by
  apply Nat.eq_of_testBit_eq
  intro v
  by_cases hv : v < 6
  · exact h v hv
  · rw [Nat.testBit_lt_two_pow (Nat.lt_of_lt_of_le hx (Nat.pow_le_pow_right (n := 2) (i := 6) (by decide) (by omega))), Nat.testBit_lt_two_pow (Nat.lt_of_lt_of_le hy (Nat.pow_le_pow_right (n := 2) (i := 6) (by decide) (by omega)))]
/-- where a strange voice is behind k turns -/
def sq_pp (m : Nat → Int32) (kd p : Int32) : Nat → Int32
  | 0 => p
  | k + 1 => sq_to (m (8 + k)) (sq_pp m kd p k) (sq_dr kd 6 (Int32.ofNat k))
theorem sq_pp_N {m : Nat → Int32} {kd p : Int32} (ok : sq_Ok m) (hp : sq_N p 15) : ∀ k, k ≤ 16 → sq_N (sq_pp m kd p k) 15 := by
  intro k
  induction k with
  | zero => intro _; exact hp
  | succ k ih =>
    intro hk
    obtain ⟨q, hq, eq⟩ := ih (by omega)
    obtain ⟨d, hd, ed⟩ := sq_dr_N (k := kd) (st := 6) (t := Int32.ofNat k)
    rw [sq_pp, eq, ed]
    exact sq_to_N (ok.2.2.2.2.1 k (by omega)) hq hd
/-- the turns of a report -/
def sq_rt (m : Nat → Int32) (r : Nat) : Nat := (m (54 + 3 * r)).toNatClampNeg
def sq_rw (m : Nat → Int32) (r : Nat) (x : Int32) : Bool := decide (m (54 + 3 * r + 1) ≤ x ∧ x ≤ m (54 + 3 * r + 2))
def sq_rb (m : Nat → Int32) (kd p : Int32) (r : Nat) : Bool := sq_rw m r (sq_pp m kd p (sq_rt m r))
def sq_re (m : Nat → Int32) : Nat := (m 6).toNatClampNeg
theorem sq_re_ok {m : Nat → Int32} (ok : sq_Ok m) : sq_re m ≤ 6 ∧ m 6 = Int32.ofNat (sq_re m) := by
  have h := sq_N_of (by omega) ok.2.2.2.1
  exact ⟨h.2, h.1⟩
theorem sq_rt_ok {m : Nat → Int32} (ok : sq_Ok m) {r : Nat} (hr : r < 6) : sq_rt m r ≤ 15 ∧ m (54 + 3 * r) = Int32.ofNat (sq_rt m r) := by
  have h := sq_N_of (by omega) (ok.2.2.2.2.2.2.1 r hr).1
  exact ⟨h.2, h.1⟩
/-- the set of reports that aren't so -/
def sq_br (m : Nat → Int32) (kd p : Int32) : Nat := sq_bfn (fun r => decide (r < sq_re m) && !sq_rb m kd p r) 6
theorem sq_br_lt {m : Nat → Int32} {kd p : Int32} : sq_br m kd p < 64 := sq_bfn_lt _ 6
theorem sq_br_t {m : Nat → Int32} {kd p : Int32} {u : Nat} (hu : u < 6) : (sq_br m kd p).testBit u = (decide (u < sq_re m) && !sq_rb m kd p u) := by
  unfold sq_br; rw [sq_bfn_t, decide_eq_true hu, Bool.true_and]
theorem cz_baL {s : am_S} {m : Nat → Int32} {k : Nat} {x : Int32} (R : sq_R s.1 8 m) (ok : sq_Ok m) (hk : k < 16) : ∀ (l r f a : Nat), r + l = sq_re m → l < f → a < 64 → ∃ a', F_X3_brokenAt_50_b5 f (Int32.ofNat k) x (Int32.ofNat a) (Int32.ofNat r) s = some (Int32.ofNat a', s) ∧ a' < 64 ∧ ∀ u, u < 6 → a'.testBit u = (a.testBit u || (decide (r ≤ u) && decide (u < sq_re m) && decide (sq_rt m u = k) && !sq_rw m u x)) := by
  obtain ⟨hc, h0⟩ := sq_re_ok ok
  have r7 : s.1 8 7 = Int32.ofNat (sq_re m) := R.2.2.2.2.2.2.2.1.trans h0
  intro l
  induction l with
  | zero =>
    intro r f a hl hf ha
    obtain ⟨f, rfl⟩ : ∃ g, f = g + 1 := ⟨f - 1, by omega⟩
    refine ⟨a, ?_, ha, fun u hu => ?_⟩
    · rw [F_X3_brokenAt_50_b5, r7, if_pos (by rw [ix_le (by omega) (by omega)]; omega)]
    · by_cases h1 : r ≤ u
      · rw [decide_eq_false (show ¬ u < sq_re m by omega)]; simp
      · rw [decide_eq_false h1]; simp
  | succ l ih =>
    intro r f a hl hf ha
    obtain ⟨f, rfl⟩ : ∃ g, f = g + 1 := ⟨f - 1, by omega⟩
    have hr6 : r < 6 := by omega
    obtain ⟨q1, q2⟩ := sq_rt_ok ok hr6
    obtain ⟨b0, b1, b2⟩ := R.2.2.2.2.2.2.2.2.2.2.1 r hr6
    have b0' : s.1 14 r = Int32.ofNat (sq_rt m r) := b0.trans q2
    have b1' : s.1 15 r = m (54 + 3 * r + 1) := b1
    have b2' : s.1 16 r = m (54 + 3 * r + 2) := b2
    have hi := cz_inv hr6
    have hn : (Int32.ofNat r).toNatClampNeg = r := ix_nat (by omega)
    obtain ⟨o1, o2⟩ := sq_bor_t a ha r hr6
    rw [F_X3_brokenAt_50_b5, r7, if_neg (by rw [ix_le (by omega) (by omega)]; omega), if_pos hi, if_pos hi, if_pos hi]
    simp only [hn]
    rw [b0', b1', b2', ix_cw, ix_b1, F_X3_brokenAt_50_b65, F_X3_brokenAt_50_b65, ix_addL, sq_bor a ha r hr6]
    have hcase : ∀ a1 : Nat, a1 < 64 → (∀ u, u < 6 → a1.testBit u = (a.testBit u || (decide (u = r) && decide (sq_rt m r = k) && !sq_rw m r x))) → ∃ a', F_X3_brokenAt_50_b5 f (Int32.ofNat k) x (Int32.ofNat a1) (Int32.ofNat (r + 1)) s = some (Int32.ofNat a', s) ∧ a' < 64 ∧ ∀ u, u < 6 → a'.testBit u = (a.testBit u || (decide (r ≤ u) && decide (u < sq_re m) && decide (sq_rt m u = k) && !sq_rw m u x)) := by
      intro a1 h1 h2
      obtain ⟨a', i1, i2, i3⟩ := ih (r + 1) f a1 (by omega) (by omega) h1
      refine ⟨a', i1, i2, fun u hu => ?_⟩
      rw [i3 u hu, h2 u hu]
      by_cases hur : u = r
      · subst hur
        rw [decide_eq_false (show ¬ u + 1 ≤ u by omega), decide_eq_true (show u ≤ u by omega), decide_eq_true (show u < sq_re m by omega), decide_eq_true (rfl : u = u)]
        simp
      · by_cases h3 : r ≤ u
        · rw [decide_eq_false hur, decide_eq_true h3, decide_eq_true (show r + 1 ≤ u by omega)]; simp
        · rw [decide_eq_false hur, decide_eq_false h3, decide_eq_false (show ¬ r + 1 ≤ u by omega)]; simp
    by_cases hk2 : sq_rt m r = k
    · rw [if_pos (by rw [hk2])]
      dsimp only
      by_cases hw : m (54 + 3 * r + 1) ≤ x ∧ x ≤ m (54 + 3 * r + 2)
      · rw [ix_wi_p hw, if_neg (by decide)]
        refine hcase a ha (fun u hu => ?_)
        have : sq_rw m r x = true := decide_eq_true hw
        rw [this]; simp
      · rw [ix_wi_n hw, if_pos rfl]
        refine hcase _ o1 (fun u hu => ?_)
        have : sq_rw m r x = false := decide_eq_false hw
        rw [o2 u hu, this, decide_eq_true hk2]
        cases decide (u = r) <;> cases a.testBit u <;> rfl
    · rw [if_neg (by rw [ix_eq (by omega) (by omega)]; exact hk2)]
      refine hcase a ha (fun u hu => ?_)
      rw [decide_eq_false hk2]; simp
theorem cz_d0 {x y : Int32} {s : am_S} : F_X10_drifts_2 x y s = some (sq_dr 0 x y, s) := rfl
theorem cz_d1 {x y : Int32} {s : am_S} : F_X0_drifts_3 x y s = some (sq_dr 1 x y, s) := rfl
theorem cz_d2 {x y : Int32} {s : am_S} : F_X5_drifts_4 x y s = some (sq_dr 2 x y, s) := by
  unfold F_X5_drifts_4 F_X10_drifts_4 sq_dr
  by_cases h : x ≤ 5
  · simp [h]
  · simp [h]
theorem cz_d3 {x : Int32} {t : Nat} {s : am_S} (ht : t < 17) : F_X4_drifts_5 x (Int32.ofNat t) s = some (sq_dr 3 x (Int32.ofNat t), s) := by
  have ho := sq_odd t ht
  unfold F_X4_drifts_5 F_X5_drifts_5 F_X10_drifts_5 sq_dr
  by_cases h6 : am_rem (Int32.ofNat t) 2 = 0
  · have h7 : ¬ (Int32.ofNat t &&& 1) = 1 := fun z => (ho.mp z) h6
    by_cases h : x ≤ 5
    · simp [h, h6, h7]
    · simp [h, h6, h7]
  · have h7 := ho.mpr h6
    simp [h6, h7]
theorem cz_d4 {x y : Int32} {s : am_S} : F_X1_drifts_6 x y s = some (sq_dr 4 x y, s) := rfl
theorem cz_d5 {x y : Int32} {s : am_S} : F_X2_drifts_7 x y s = some (sq_dr 5 x y, s) := rfl
theorem cz_bbL {s : am_S} {m : Nat → Int32} {k : Nat} {p : Int32} (R : sq_R s.1 8 m) (ok : sq_Ok m) (hk : k ≤ 5) (hp : sq_N p 15) : ∀ (l t f a : Nat), t + l = 16 → l < f → a < 64 → (∀ u, u < 6 → a.testBit u = (decide (u < sq_re m) && decide (sq_rt m u < t) && !sq_rb m (Int32.ofNat k) p u)) → F_X3_brokenBy_50_b24 f k (sq_pp m (Int32.ofNat k) p t) (Int32.ofNat a) (Int32.ofNat t) s = some (Int32.ofNat (sq_br m (Int32.ofNat k) p), s) := by
  intro l
  induction l with
  | zero =>
    intro t f a hl hf ha hb
    obtain ⟨f, rfl⟩ : ∃ g, f = g + 1 := ⟨f - 1, by omega⟩
    have e : a = sq_br m (Int32.ofNat k) p := sq_ext6 ha sq_br_lt (fun v hv => by
      rw [hb v hv, sq_br_t hv]
      have := (sq_rt_ok ok hv).1
      rw [decide_eq_true (show sq_rt m v < t by omega), Bool.and_true])
    rw [F_X3_brokenBy_50_b24, if_pos (by omega), if_pos (by rw [ix_Lle (by omega) (by omega)]; omega), e]
  | succ l ih =>
    intro t f a hl hf ha hb
    obtain ⟨f, rfl⟩ : ∃ g, f = g + 1 := ⟨f - 1, by omega⟩
    have ht : t < 16 := by omega
    obtain ⟨a', b1, b2, b3⟩ := cz_baL (x := sq_pp m (Int32.ofNat k) p t) R ok ht (sq_re m) 0 1000 0 (by omega) (by have := (sq_re_ok ok).1; omega) (by omega)
    have b1' : F_X3_brokenAt_50 (Int32.ofNat t) (sq_pp m (Int32.ofNat k) p t) s = some (Int32.ofNat a', s) := b1
    obtain ⟨o1, o2⟩ := sq_or64 a ha a' b2
    obtain ⟨q, hq, eq⟩ := sq_pp_N (kd := Int32.ofNat k) ok hp t (by omega)
    obtain ⟨d, hd, ed⟩ := sq_dr_N (k := Int32.ofNat k) (st := 6) (t := Int32.ofNat t)
    have hdr : F_X8_drifted_8 (sq_pp m (Int32.ofNat k) p t) (sq_dr (Int32.ofNat k) 6 (Int32.ofNat t)) (Int32.ofNat t) s = some (sq_pp m (Int32.ofNat k) p (t + 1), s) := by
      rw [sq_pp, eq, ed]
      exact cz_drifted R ok ht hq hd
    have hnext : F_X3_brokenBy_50_b24 f k (sq_pp m (Int32.ofNat k) p (t + 1)) (Int32.ofNat a ||| Int32.ofNat a') (Int32.ofNat (t + 1)) s = some (Int32.ofNat (sq_br m (Int32.ofNat k) p), s) := by
      rw [o1]
      refine ih (t + 1) f _ (by omega) (by omega) o2 (fun u hu => ?_)
      rw [Nat.testBit_or, hb u hu, b3 u hu, sq_bits0 u hu, decide_eq_true (Nat.zero_le u), Bool.false_or, Bool.true_and]
      unfold sq_rb
      by_cases h1 : sq_rt m u = t
      · rw [h1, decide_eq_false (show ¬ t < t by omega), decide_eq_true (rfl : t = t), decide_eq_true (show t < t + 1 by omega)]
        simp
      · by_cases h2 : sq_rt m u < t
        · rw [decide_eq_true h2, decide_eq_false h1, decide_eq_true (show sq_rt m u < t + 1 by omega)]; simp
        · rw [decide_eq_false h2, decide_eq_false h1, decide_eq_false (show ¬ sq_rt m u < t + 1 by omega)]; simp
    rw [F_X3_brokenBy_50_b24, if_pos (by omega), if_neg (by rw [ix_Lle (by omega) (by omega)]; omega), b1', ix_b1, ix_addL]
    dsimp only
    rcases sq_six hk with rfl | rfl | rfl | rfl | rfl | rfl
    · rw [if_pos rfl, cz_d0, ix_b1]
      dsimp only
      have h' : F_X8_drifted_8 (sq_pp m (Int32.ofNat 0) p t) (sq_dr 0 6 (Int32.ofNat t)) (Int32.ofNat t) s = _ := hdr
      rw [h', ix_b1]; exact hnext
    · rw [if_neg (by decide), if_pos rfl, cz_d1, ix_b1]
      dsimp only
      have h' : F_X8_drifted_8 (sq_pp m (Int32.ofNat 1) p t) (sq_dr 1 6 (Int32.ofNat t)) (Int32.ofNat t) s = _ := hdr
      rw [h', ix_b1]; exact hnext
    · rw [if_neg (by decide), if_neg (by decide), if_pos rfl, cz_d2, ix_b1]
      dsimp only
      have h' : F_X8_drifted_8 (sq_pp m (Int32.ofNat 2) p t) (sq_dr 2 6 (Int32.ofNat t)) (Int32.ofNat t) s = _ := hdr
      rw [h', ix_b1]; exact hnext
    · rw [if_neg (by decide), if_neg (by decide), if_neg (by decide), if_pos rfl, cz_d3 (by omega), ix_b1]
      dsimp only
      have h' : F_X8_drifted_8 (sq_pp m (Int32.ofNat 3) p t) (sq_dr 3 6 (Int32.ofNat t)) (Int32.ofNat t) s = _ := hdr
      rw [h', ix_b1]; exact hnext
    · rw [if_neg (by decide), if_neg (by decide), if_neg (by decide), if_neg (by decide), if_pos rfl, cz_d4, ix_b1]
      dsimp only
      have h' : F_X8_drifted_8 (sq_pp m (Int32.ofNat 4) p t) (sq_dr 4 6 (Int32.ofNat t)) (Int32.ofNat t) s = _ := hdr
      rw [h', ix_b1]; exact hnext
    · rw [if_neg (by decide), if_neg (by decide), if_neg (by decide), if_neg (by decide), if_neg (by decide), cz_d5, ix_b1]
      dsimp only
      have h' : F_X8_drifted_8 (sq_pp m (Int32.ofNat 5) p t) (sq_dr 5 6 (Int32.ofNat t)) (Int32.ofNat t) s = _ := hdr
      rw [h', ix_b1]; exact hnext
def sq_kq (q : Nat) : Int32 := Int32.ofNat (q / 16 + 1)
def sq_plq (q : Nat) : Int32 := Int32.ofNat (q % 16)
theorem sq_str : ∀ q, q < 80 → Int32.ofNat q / 16 + 1 = sq_kq q ∧ 1 + Int32.ofNat q / 16 = sq_kq q ∧ am_rem (Int32.ofNat q) 16 = sq_plq q := by decide +kernel
def sq_bq (m : Nat → Int32) (q : Nat) : Nat := sq_br m (sq_kq q) (sq_plq q)
theorem cz_bb {s : am_S} {m : Nat → Int32} {q : Nat} (R : sq_R s.1 8 m) (ok : sq_Ok m) (hq : q < 80) : F_X3_brokenBy_50 (Int32.ofNat q) s = some (Int32.ofNat (sq_bq m q), s) := by
  obtain ⟨e1, e2, e3⟩ := sq_str q hq
  have h := cz_bbL (k := q / 16 + 1) (p := sq_plq q) R ok (by omega) ⟨q % 16, by omega, rfl⟩ 16 0 1000 0 (by omega) (by omega) (by omega) (fun u hu => by rw [sq_bits0 u hu, decide_eq_false (show ¬ sq_rt m u < 0 by omega)]; simp)
  unfold F_X3_brokenBy_50 F_X3_kindOfStranger F_X3_placeOfStranger
  rw [e1, ix_b1]
  dsimp only
  have hk : am_in (sq_kq q) 6 := cz_inv (by omega)
  rw [if_pos hk, e3, ix_b1]
  have hn : (sq_kq q).toNatClampNeg = q / 16 + 1 := ix_nat (by omega)
  dsimp only
  rw [hn]
  exact h
/-! the model -/
theorem mz_sbL {s : am_S} {kd p : Int32} {r : Nat} (ok : sq_Ok (s.1 83)) (hr : r < 6) : ∀ (l t f : Nat), t + l = sq_rt (s.1 83) r → l < f → F_X12_isSoBy_82_b14 f kd (Int32.ofNat (54 + 3 * r)) (sq_pp (s.1 83) kd p t) (Int32.ofNat t) s = some (if sq_rb (s.1 83) kd p r = true then 1 else 0, s) := by
  obtain ⟨q1, q2⟩ := sq_rt_ok ok hr
  have ii : ∀ w, w < 296 → am_in (Int32.ofNat w) 296 := fun w hw => (ix_in (by omega)).mpr hw
  have nn : ∀ w, w < 296 → (Int32.ofNat w).toNatClampNeg = w := fun w hw => ix_nat (by omega)
  have g1 : Int32.ofNat (54 + 3 * r) + 1 = Int32.ofNat (54 + 3 * r + 1) := ix_add _ 1
  have g2 : Int32.ofNat (54 + 3 * r) + 2 = Int32.ofNat (54 + 3 * r + 2) := ix_add _ 2
  intro l
  induction l with
  | zero =>
    intro t f hl hf
    obtain ⟨f, rfl⟩ : ∃ g, f = g + 1 := ⟨f - 1, by omega⟩
    have ht : t = sq_rt (s.1 83) r := by omega
    rw [F_X12_isSoBy_82_b14, if_pos (ii _ (by omega)), nn _ (by omega), q2, if_pos (by rw [ix_le (by omega) (by omega)]; omega), g1, g2, if_pos (ii _ (by omega)), if_pos (ii _ (by omega)), nn _ (by omega), nn _ (by omega), ix_mw, ix_b1]
    dsimp only
    rw [if_pos ix_wi_or, ht]
    unfold sq_rb sq_rw ix_wi
    simp only [decide_eq_true_eq]
  | succ l ih =>
    intro t f hl hf
    obtain ⟨f, rfl⟩ : ∃ g, f = g + 1 := ⟨f - 1, by omega⟩
    rw [F_X12_isSoBy_82_b14, if_pos (ii _ (by omega)), nn _ (by omega), q2, if_neg (by rw [ix_le (by omega) (by omega)]; omega), mz_driftOf, ix_b1]
    dsimp only
    rw [mz_driftsTo (by omega), ix_b1, ix_addL]
    exact ih (t + 1) f (by omega) (by omega)
theorem mz_sb {s : am_S} {kd p : Int32} {r : Nat} (ok : sq_Ok (s.1 83)) (hr : r < 6) : F_X12_isSoBy_82 (Int32.ofNat r) kd p s = some (if sq_rb (s.1 83) kd p r = true then 1 else 0, s) := by
  have h := mz_sbL (s := s) (kd := kd) (p := p) ok hr (sq_rt (s.1 83) r) 0 1000 (by omega) (by have := (sq_rt_ok ok hr).1; omega)
  unfold F_X12_isSoBy_82
  rw [ix_Lmul, ix_Ladd]
  exact h
/-- fits, but for one -/
def sq_ftl (m : Nat → Int32) (kd p but : Int32) : Nat → Nat → Bool
  | 0, _ => true
  | l + 1, r => (decide (Int32.ofNat r = but) || sq_rb m kd p r) && sq_ftl m kd p but l (r + 1)
theorem mz_ftL {s : am_S} {kd p but : Int32} (ok : sq_Ok (s.1 83)) : ∀ (l r f : Nat), r + l = sq_re (s.1 83) → l + 1 < f → F_X12_isFit_82_b6 f kd p but 1 (Int32.ofNat r) s = some (if sq_ftl (s.1 83) kd p but l r = true then 1 else 0, s) := by
  obtain ⟨hc, h0⟩ := sq_re_ok ok
  have e6 : s.1 83 (6 : Int32).toNatClampNeg = Int32.ofNat (sq_re (s.1 83)) := h0
  intro l
  induction l with
  | zero =>
    intro r f hl hf
    obtain ⟨f, rfl⟩ : ∃ g, f = g + 1 := ⟨f - 1, by omega⟩
    rw [F_X12_isFit_82_b6, if_pos ix_k6, e6, if_pos (by rw [ix_le (by omega) (by omega)]; omega), if_pos (Or.inr rfl)]
    rfl
  | succ l ih =>
    intro r f hl hf
    obtain ⟨f, rfl⟩ : ∃ g, f = g + 1 := ⟨f - 1, by omega⟩
    have hi := ih (r + 1) f (by omega) (by omega)
    have h40 : F_X12_isFit_82_b40 (F_X12_isFit_82_b6 f) kd p but (Int32.ofNat r) s = some (if sq_ftl (s.1 83) kd p but l (r + 1) = true then 1 else 0, s) := by
      rw [F_X12_isFit_82_b40, F_X12_isFit_82_b45, ix_addL, hi]
    rw [F_X12_isFit_82_b6, if_pos ix_k6, e6, if_neg (by rw [ix_le (by omega) (by omega)]; omega), if_neg (show ¬ (1 : Int32) = 0 by decide), h40, mz_sb ok (by omega), ix_b1, sq_ftl]
    dsimp only
    by_cases hb : Int32.ofNat r = but
    · rw [if_pos hb, decide_eq_true hb, Bool.true_or, Bool.true_and]
    · rw [if_neg hb, decide_eq_false hb, Bool.false_or]
      by_cases hs : sq_rb (s.1 83) kd p r = true
      · rw [if_pos hs, if_neg (show ¬ (1 : Int32) = 0 by decide), hs, Bool.true_and]; exact h40
      · rw [if_neg hs, if_pos rfl, Bool.eq_false_iff.mpr hs, Bool.false_and, F_X12_isFit_82_b45, ix_addL]
        obtain ⟨g, rfl⟩ : ∃ g, f = g + 1 := ⟨f - 1, by omega⟩
        rw [F_X12_isFit_82_b6, if_pos ix_k6]
        by_cases hz : s.1 83 (6 : Int32).toNatClampNeg ≤ Int32.ofNat (r + 1)
        · rw [if_pos hz, if_pos (show (0 : Int32) = 0 ∨ (0 : Int32) = 1 from Or.inl rfl)]; rfl
        · rw [if_neg hz, if_pos (show (0 : Int32) = 0 from rfl), if_pos (show (0 : Int32) = 0 ∨ (0 : Int32) = 1 from Or.inl rfl)]; rfl
def sq_fq (m : Nat → Int32) (but : Int32) (q : Nat) : Bool := sq_ftl m (sq_kq q) (sq_plq q) but (sq_re m) 0
theorem mz_ft {s : am_S} {but : Int32} {q : Nat} (ok : sq_Ok (s.1 83)) : F_X12_isFit_82 (sq_kq q) (sq_plq q) but s = some (if sq_fq (s.1 83) but q = true then 1 else 0, s) := mz_ftL ok (sq_re (s.1 83)) 0 1000 (by omega) (by have := (sq_re_ok ok).1; omega)
/-- how many fit, and the first: kind and place are told where some fit -/
def sq_ff (m : Nat → Int32) (but : Int32) : Nat → Nat → Nat × Int32 × Int32 → Nat × Int32 × Int32
  | 0, _, a => a
  | l + 1, q, a => sq_ff m but l (q + 1) (if sq_fq m but q = true then (a.1 + 1, (if a.1 = 0 then sq_kq q else a.2.1), (if a.1 = 0 then sq_plq q else a.2.2)) else a)
theorem mz_ffL {but : Int32} {m : Nat → Int32} (ok : sq_Ok m) : ∀ (l q f : Nat) (s : am_S) (a : Nat × Int32 × Int32), s.1 83 = m → q + l = 80 → l < f → a.1 ≤ q → s.1 82 16 = Int32.ofNat a.1 → s.1 82 17 = a.2.1 → s.1 82 18 = a.2.2 → ∃ s', F_X12_findFits_82_b7 f but (Int32.ofNat q) s = some s' ∧ s'.1 82 16 = Int32.ofNat (sq_ff m but l q a).1 ∧ s'.1 82 17 = (sq_ff m but l q a).2.1 ∧ s'.1 82 18 = (sq_ff m but l q a).2.2 ∧ (sq_ff m but l q a).1 ≤ 80 ∧ ix_F2 (fun k j => k == 82 && (16 ≤ j && j < 19)) s s' := by
  intro l
  induction l with
  | zero =>
    intro q f s a h83 hl hf ha h16 h17 h18
    obtain ⟨f, rfl⟩ : ∃ g, f = g + 1 := ⟨f - 1, by omega⟩
    refine ⟨s, ?_, h16, h17, h18, by show a.1 ≤ 80; omega, ix_F2.rf⟩
    rw [F_X12_findFits_82_b7, if_pos (by rw [ix_Lle (by omega) (by omega)]; omega)]
  | succ l ih =>
    intro q f s a h83 hl hf ha h16 h17 h18
    obtain ⟨f, rfl⟩ : ∃ g, f = g + 1 := ⟨f - 1, by omega⟩
    obtain ⟨e1, e2, e3⟩ := sq_str q (by omega)
    have hft := mz_ft (s := s) (but := but) (q := q) (by rw [h83]; exact ok)
    rw [h83] at hft
    rw [F_X12_findFits_82_b7, if_neg (by rw [ix_Lle (by omega) (by omega)]; omega), e2, e3, hft, ix_b1, sq_ff]
    dsimp only
    rw [h16, h17]
    by_cases hq : sq_fq m but q = true
    · rw [if_pos hq, if_neg (by decide), if_pos hq]
      -- kind kk and place pp are written
      have hgo : ∀ kk : Int32, kk = (if a.1 = 0 then sq_kq q else a.2.1) → ∃ s', F_X12_findFits_82_b53 (F_X12_findFits_82_b7 f) but (Int32.ofNat q) (sq_plq q) kk s = some s' ∧ s'.1 82 16 = Int32.ofNat (sq_ff m but l (q + 1) (a.1 + 1, (if a.1 = 0 then sq_kq q else a.2.1), (if a.1 = 0 then sq_plq q else a.2.2))).1 ∧ s'.1 82 17 = (sq_ff m but l (q + 1) (a.1 + 1, (if a.1 = 0 then sq_kq q else a.2.1), (if a.1 = 0 then sq_plq q else a.2.2))).2.1 ∧ s'.1 82 18 = (sq_ff m but l (q + 1) (a.1 + 1, (if a.1 = 0 then sq_kq q else a.2.1), (if a.1 = 0 then sq_plq q else a.2.2))).2.2 ∧ (sq_ff m but l (q + 1) (a.1 + 1, (if a.1 = 0 then sq_kq q else a.2.1), (if a.1 = 0 then sq_plq q else a.2.2))).1 ≤ 80 ∧ ix_F2 (fun k j => k == 82 && (16 ≤ j && j < 19)) s s' := by
        intro kk hkk
        obtain ⟨u, eu⟩ : ∃ u, u = am_sI (am_sI (am_sI s 82 17 kk) 82 18 (if a.1 = 0 then sq_plq q else a.2.2)) 82 16 (Int32.ofNat (a.1 + 1)) := ⟨_, rfl⟩
        obtain ⟨s', i1, i2, i3, i4, i5, i6⟩ := ih (q + 1) f u (a.1 + 1, (if a.1 = 0 then sq_kq q else a.2.1), (if a.1 = 0 then sq_plq q else a.2.2)) (by rw [eu, ix_83 (by decide), ix_83 (by decide), ix_83 (by decide)]; exact h83) (by omega) (by omega) (by show a.1 + 1 ≤ q + 1; omega) (by rw [eu, ix_sIs]) (by rw [eu, ix_sIj (by omega), ix_sIj (by omega), ix_sIs]; exact hkk) (by rw [eu, ix_sIj (by omega), ix_sIs])
        refine ⟨s', ?_, i2, i3, i4, i5, ((by rw [eu]; exact ((ix_F2.I (by rfl)).tr (ix_F2.I (by rfl))).tr (ix_F2.I (by rfl))) : ix_F2 _ s u).tr i6⟩
        have h73 : ∀ y : Int32, y = (if a.1 = 0 then sq_plq q else a.2.2) → F_X12_findFits_82_b73 (F_X12_findFits_82_b7 f) but (Int32.ofNat q) y (am_sI s 82 17 kk) = some s' := by
          intro y hy
          rw [F_X12_findFits_82_b73, ix_b1, ix_sIj (by omega), ix_sIj (by omega), h16, ix_addL, ix_b1, hy, ← eu, F_X12_findFits_82_b86, ix_addL, i1]
        rw [F_X12_findFits_82_b53, ix_b1, ix_sIj (by omega), ix_sIj (by omega), h16, h18]
        by_cases h0 : a.1 = 0
        · rw [if_pos (by rw [h0]; rfl)]; exact h73 _ (by rw [if_pos h0])
        · rw [if_neg (by rw [ix_eqL (by omega) (by omega)]; exact h0)]; exact h73 _ (by rw [if_neg h0])
      by_cases h0 : a.1 = 0
      · rw [if_pos (show Int32.ofNat a.1 = 0 by rw [h0]; rfl)]
        exact hgo _ (by rw [if_pos h0])
      · rw [if_neg (show ¬ Int32.ofNat a.1 = 0 by rw [ix_eqL (by omega) (by omega)]; exact h0)]
        exact hgo _ (by rw [if_neg h0])
    · rw [if_neg hq, if_pos rfl, if_neg hq, F_X12_findFits_82_b86, ix_addL]
      exact ih (q + 1) f s a h83 (by omega) (by omega) (by omega) h16 h17 h18
