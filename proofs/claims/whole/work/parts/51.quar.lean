/-! LAYER 2: quarrels, choir agree (written by wip/whole/l2/gen51.py) -/
def sq_od (m : Nat → Int32) (v u : Nat) : Bool := decide (-1 ≤ m (24 + 5 * v + 1) - m (24 + 5 * u + 1) ∧ m (24 + 5 * v + 1) - m (24 + 5 * u + 1) ≤ 1)
theorem sq_od_s {m : Nat → Int32} (ok : sq_Ok m) {v u : Nat} (hv : v < 6) (hu : u < 6) : sq_od m v u = sq_od m u v := by
  obtain ⟨p, hp, ep⟩ := (ok.2.2.2.2.2.1 v hv).2.1
  obtain ⟨q, hq, eq⟩ := (ok.2.2.2.2.2.1 u hu).2.1
  unfold sq_od
  rw [ep, eq]
  have hf : ∀ p, p ≤ 9 → ∀ q, q ≤ 9 → decide (-1 ≤ Int32.ofNat p - Int32.ofNat q ∧ Int32.ofNat p - Int32.ofNat q ≤ 1) = decide (-1 ≤ Int32.ofNat q - Int32.ofNat p ∧ Int32.ofNat q - Int32.ofNat p ≤ 1) := by decide +kernel
  exact hf p hp q hq
theorem cz_quar {s : am_S} {m : Nat → Int32} {v u : Nat} (R : sq_R s.1 8 m) (ok : sq_Ok m) (hv : v < 6) (hu : u < 6) : F_X3_isQuarrel_50 (Int32.ofNat v) (Int32.ofNat u) s = some (if sq_od m v u = true then 1 else 0, s) := by
  obtain ⟨p, hp, ep⟩ := (ok.2.2.2.2.2.1 v hv).2.1
  obtain ⟨q, hq, eq⟩ := (ok.2.2.2.2.2.1 u hu).2.1
  have hab := sq_absd p (by omega) q (by omega)
  unfold F_X3_isQuarrel_50
  rw [if_pos (cz_inv hv), if_pos (cz_inv hu)]
  have e1 : (Int32.ofNat v).toNatClampNeg = v := ix_nat (by omega)
  have e2 : (Int32.ofNat u).toNatClampNeg = u := ix_nat (by omega)
  simp only [e1, e2]
  rw [cz_pitch R hv, cz_pitch R hu, ep, eq]
  unfold sq_od
  rw [ep, eq]
  by_cases h : -1 ≤ Int32.ofNat p - Int32.ofNat q ∧ Int32.ofNat p - Int32.ofNat q ≤ 1
  · rw [if_neg (fun z => (hab.mp z) h), if_pos (decide_eq_true h)]
  · rw [if_pos (hab.mpr h), if_neg (fun z => h (of_decide_eq_true z))]
theorem mz_odds {s : am_S} {v u : Nat} (hv : v < 6) (hu : u < 6) : F_X12_areAtOdds_82 (Int32.ofNat v) (Int32.ofNat u) s = some (if sq_od (s.1 83) v u = true then 1 else 0, s) := by
  have e : F_X12_in (s.1 83 (24 + 5 * v + 1) - s.1 83 (24 + 5 * u + 1)).toInt64 (-1) 1 s = some (ix_wi (s.1 83 (24 + 5 * v + 1) - s.1 83 (24 + 5 * u + 1)) (-1) 1, s) := ix_mw (lo := -1) (hi := 1)
  unfold F_X12_areAtOdds_82
  rw [mz_its1 hv, ix_b1]
  dsimp only
  rw [mz_its1 hu, ix_b1]
  dsimp only
  rw [e, ix_b1]
  dsimp only
  rw [if_pos ix_wi_or]
  unfold ix_wi sq_od
  simp only [decide_eq_true_eq]
def sq_qi (m : Nat → Int32) (v : Nat) : Nat → Nat → Int32 → Int32
  | 0, _, c => c
  | l + 1, u, c => sq_qi m v l (u + 1) (if sq_od m v u = true then c + 1 else c)
def sq_qo (m : Nat → Int32) : Nat → Nat → Int32 → Int32
  | 0, _, c => c
  | l + 1, v, c => sq_qo m l (v + 1) (sq_qi m v v 0 c)
theorem cz_qi {s : am_S} {m : Nat → Int32} {v : Nat} {k4 : Int32 → Int32 → am_S → Option (Int32 × am_S)} (R : sq_R s.1 8 m) (ok : sq_Ok m) (hv : v < 6) : ∀ (l u f : Nat) (c : Int32), u + l = v → l < f → F_X3_quarrellingPairs_50_b17 k4 f c (Int32.ofNat v) (Int32.ofNat u) s = k4 (sq_qi m v l u c) (Int32.ofNat (v + 1)) s := by
  intro l
  induction l with
  | zero =>
    intro u f c hl hf
    obtain ⟨f, rfl⟩ : ∃ g, f = g + 1 := ⟨f - 1, by omega⟩
    rw [F_X3_quarrellingPairs_50_b17, if_pos (by rw [ix_le (by omega) (by omega)]; omega), ix_addL]
    rfl
  | succ l ih =>
    intro u f c hl hf
    obtain ⟨f, rfl⟩ : ∃ g, f = g + 1 := ⟨f - 1, by omega⟩
    rw [F_X3_quarrellingPairs_50_b17, if_neg (by rw [ix_le (by omega) (by omega)]; omega), cz_quar R ok hv (by omega), ix_b1, sq_qi]
    dsimp only
    rw [F_X3_quarrellingPairs_50_b34, F_X3_quarrellingPairs_50_b34, ix_addL, ih (u + 1) f _ (by omega) (by omega), ih (u + 1) f _ (by omega) (by omega)]
    by_cases h : sq_od m v u = true
    · rw [if_pos h, if_neg (by decide), if_pos h]
    · rw [if_neg h, if_pos rfl, if_neg h]
theorem mz_qi {s : am_S} {v : Nat} {k4 : Int32 → Int32 → am_S → Option (Int32 × am_S)} (hv : v < 6) : ∀ (l u f : Nat) (c : Int32), u + l = v → l < f → F_X12_quarrels_82_b16 k4 f c (Int32.ofNat v) (Int32.ofNat u) s = k4 (sq_qi (s.1 83) v l u c) (Int32.ofNat (v + 1)) s := by
  intro l
  induction l with
  | zero =>
    intro u f c hl hf
    obtain ⟨f, rfl⟩ : ∃ g, f = g + 1 := ⟨f - 1, by omega⟩
    rw [F_X12_quarrels_82_b16, if_pos (by rw [ix_le (by omega) (by omega)]; omega), ix_addL]
    rfl
  | succ l ih =>
    intro u f c hl hf
    obtain ⟨f, rfl⟩ : ∃ g, f = g + 1 := ⟨f - 1, by omega⟩
    rw [F_X12_quarrels_82_b16, if_neg (by rw [ix_le (by omega) (by omega)]; omega), mz_odds hv (by omega), ix_b1, sq_qi]
    dsimp only
    rw [F_X12_quarrels_82_b36, F_X12_quarrels_82_b36, ix_addL, Int32.add_zero, ih (u + 1) f _ (by omega) (by omega), ih (u + 1) f _ (by omega) (by omega)]
    by_cases h : sq_od (s.1 83) v u = true
    · rw [if_pos h, if_neg (by decide), if_pos h]
    · rw [if_neg h, if_pos rfl, if_neg h]
theorem cz_qo {s : am_S} {m : Nat → Int32} (R : sq_R s.1 8 m) (ok : sq_Ok m) : ∀ (l v f : Nat) (c : Int32), v + l = sq_cn m → l < f → F_X3_quarrellingPairs_50_b4 f c (Int32.ofNat v) s = some (sq_qo m l v c, s) := by
  obtain ⟨hc, h0⟩ := sq_cn_ok ok
  intro l
  induction l with
  | zero =>
    intro v f c hl hf
    obtain ⟨f, rfl⟩ : ∃ g, f = g + 1 := ⟨f - 1, by omega⟩
    rw [F_X3_quarrellingPairs_50_b4, R.2.2.2.2.2.1, h0, if_pos (by rw [ix_le (by omega) (by omega)]; omega)]
    rfl
  | succ l ih =>
    intro v f c hl hf
    obtain ⟨f, rfl⟩ : ∃ g, f = g + 1 := ⟨f - 1, by omega⟩
    have h := cz_qi (k4 := F_X3_quarrellingPairs_50_b4 f) R ok (v := v) (by omega) v 0 1000 c (by omega) (by omega)
    have h' : F_X3_quarrellingPairs_50_b17 (F_X3_quarrellingPairs_50_b4 f) 1000 c (Int32.ofNat v) 0 s = _ := h
    rw [F_X3_quarrellingPairs_50_b4, R.2.2.2.2.2.1, h0, if_neg (by rw [ix_le (by omega) (by omega)]; omega), h', ih (v + 1) f _ (by omega) (by omega)]
    rfl
theorem mz_qo {s : am_S} (ok : sq_Ok (s.1 83)) : ∀ (l v f : Nat) (c : Int32), v + l = sq_cn (s.1 83) → l < f → F_X12_quarrels_82_b4 f c (Int32.ofNat v) s = some (sq_qo (s.1 83) l v c, s) := by
  obtain ⟨hc, h0⟩ := sq_cn_ok ok
  have e0 : s.1 83 (0 : Int32).toNatClampNeg = Int32.ofNat (sq_cn (s.1 83)) := h0
  intro l
  induction l with
  | zero =>
    intro v f c hl hf
    obtain ⟨f, rfl⟩ : ∃ g, f = g + 1 := ⟨f - 1, by omega⟩
    rw [F_X12_quarrels_82_b4, if_pos ix_k0, e0, if_pos (by rw [ix_le (by omega) (by omega)]; omega)]
    rfl
  | succ l ih =>
    intro v f c hl hf
    obtain ⟨f, rfl⟩ : ∃ g, f = g + 1 := ⟨f - 1, by omega⟩
    have h := mz_qi (s := s) (k4 := F_X12_quarrels_82_b4 f) (v := v) (by omega) v 0 1000 c (by omega) (by omega)
    have h' : F_X12_quarrels_82_b16 (F_X12_quarrels_82_b4 f) 1000 c (Int32.ofNat v) 0 s = _ := h
    rw [F_X12_quarrels_82_b4, if_pos ix_k0, e0, if_neg (by rw [ix_le (by omega) (by omega)]; omega), h', ih (v + 1) f _ (by omega) (by omega)]
    rfl
theorem ag_quarrels : jz_A F_X11_quarrels_0 F_X12_quarrels_82 := by
  intro s j
  obtain ⟨ok, R⟩ := j.1
  have hc := (sq_cn_ok ok).1
  refine jz_A0 (v := sq_qo (s.1 83) (sq_cn (s.1 83)) 0 0) j ?_ ?_
  · unfold F_X11_quarrels_0 F_X3_quarrellingPairs_50
    have h : F_X3_quarrellingPairs_50_b4 1000 0 0 s = _ := cz_qo R ok (sq_cn (s.1 83)) 0 1000 0 (by omega) (by omega)
    rw [h]; rfl
  · unfold F_X12_quarrels_82
    have h : F_X12_quarrels_82_b4 1000 0 0 s = _ := mz_qo ok (sq_cn (s.1 83)) 0 1000 0 (by omega) (by omega)
    exact h
/-! choirs -/
def sq_stl (m : Nat → Int32) (x : Nat) : Nat → Nat → Int32 → Int32
  | 0, _, c => c
  | l + 1, v, c => sq_stl m x l (v + 1) (if x.testBit v = true then c + m (24 + 5 * v + 2) else c)
def sq_sto (m : Nat → Int32) (x : Nat) : Int32 := sq_stl m x (sq_cn m) 0 0
theorem sq_stl0 (m : Nat → Int32) : ∀ l v, v + l ≤ 6 → ∀ c, sq_stl m 0 l v c = c := by
  intro l
  induction l with
  | zero => intro v _ c; rfl
  | succ l ih => intro v h c; rw [sq_stl, if_neg (by rw [sq_bits0 v (by omega)]; decide)]; exact ih (v + 1) (by omega) c
theorem cz_stl {s : am_S} {m : Nat → Int32} {x : Nat} (R : sq_R s.1 8 m) (ok : sq_Ok m) (hx : x < 64) : ∀ (l v f : Nat) (c : Int32), v + l = sq_cn m → l < f → F_X3_strengthOf_50_b4 f (Int32.ofNat x) c (Int32.ofNat v) s = some (sq_stl m x l v c, s) := by
  obtain ⟨hc, h0⟩ := sq_cn_ok ok
  intro l
  induction l with
  | zero =>
    intro v f c hl hf
    obtain ⟨f, rfl⟩ : ∃ g, f = g + 1 := ⟨f - 1, by omega⟩
    rw [F_X3_strengthOf_50_b4, R.2.2.2.2.2.1, h0, if_pos (by rw [ix_le (by omega) (by omega)]; omega)]
    rfl
  | succ l ih =>
    intro v f c hl hf
    obtain ⟨f, rfl⟩ : ∃ g, f = g + 1 := ⟨f - 1, by omega⟩
    have hv : v < 6 := by omega
    rw [F_X3_strengthOf_50_b4, R.2.2.2.2.2.1, h0, if_neg (by rw [ix_le (by omega) (by omega)]; omega), if_pos (cz_inv hv), ix_nat (by omega), cz_str R hv, sq_bit x hx v hv, ix_b1, ix_addL, ih (v + 1) f _ (by omega) (by omega), sq_stl]
    by_cases h : x.testBit v = true
    · rw [if_pos h, if_pos h, Int32.one_mul]
    · rw [if_neg h, if_neg h, Int32.zero_mul, Int32.add_zero]
theorem mz_stl {s : am_S} {x : Nat} (ok : sq_Ok (s.1 83)) (hx : x < 64) : ∀ (l v f : Nat) (c : Int32), v + l = sq_cn (s.1 83) → l < f → F_X12_strengthOf_82_b4 f (Int32.ofNat x) c (Int32.ofNat v) s = some (sq_stl (s.1 83) x l v c, s) := by
  obtain ⟨hc, h0⟩ := sq_cn_ok ok
  have e0 : s.1 83 (0 : Int32).toNatClampNeg = Int32.ofNat (sq_cn (s.1 83)) := h0
  intro l
  induction l with
  | zero =>
    intro v f c hl hf
    obtain ⟨f, rfl⟩ : ∃ g, f = g + 1 := ⟨f - 1, by omega⟩
    rw [F_X12_strengthOf_82_b4, if_pos ix_k0, e0, if_pos (by rw [ix_le (by omega) (by omega)]; omega)]
    rfl
  | succ l ih =>
    intro v f c hl hf
    obtain ⟨f, rfl⟩ : ∃ g, f = g + 1 := ⟨f - 1, by omega⟩
    have hv : v < 6 := by omega
    rw [F_X12_strengthOf_82_b4, if_pos ix_k0, e0, if_neg (by rw [ix_le (by omega) (by omega)]; omega), sq_bit x hx v hv, mz_its2 hv, ix_b1, F_X12_strengthOf_82_b34, F_X12_strengthOf_82_b34, ix_addL, Int32.add_zero, ih (v + 1) f _ (by omega) (by omega), ih (v + 1) f _ (by omega) (by omega), sq_stl]
    by_cases h : x.testBit v = true
    · rw [if_pos h, if_pos rfl, if_pos h]
    · rw [if_neg h, if_neg (by decide), if_neg h]
theorem cz_sto {s : am_S} {m : Nat → Int32} {x : Nat} (R : sq_R s.1 8 m) (ok : sq_Ok m) (hx : x < 64) : F_X3_strengthOf_50 (Int32.ofNat x) s = some (sq_sto m x, s) := cz_stl R ok hx (sq_cn m) 0 1000 0 (by omega) (by have := (sq_cn_ok ok).1; omega)
theorem mz_sto {s : am_S} {x : Nat} (ok : sq_Ok (s.1 83)) (hx : x < 64) : F_X12_strengthOf_82 (Int32.ofNat x) s = some (sq_sto (s.1 83) x, s) := mz_stl ok hx (sq_cn (s.1 83)) 0 1000 0 (by omega) (by have := (sq_cn_ok ok).1; omega)
theorem sq_bit2 : ∀ x, x < 64 → ∀ v, v < 6 → ∀ u, u < 6 → (((Int32.ofNat x >>> (Int32.ofNat v &&& 31)) &&& (Int32.ofNat x >>> (Int32.ofNat u &&& 31))) &&& 1) = if (x.testBit v && x.testBit u) = true then 1 else 0 := by decide +kernel
def sq_pi (m : Nat → Int32) (x v : Nat) : Nat → Nat → Bool
  | 0, _ => true
  | l + 1, u => !(x.testBit v && x.testBit u && sq_od m v u) && sq_pi m x v l (u + 1)
def sq_po (m : Nat → Int32) (x : Nat) : Nat → Nat → Bool
  | 0, _ => true
  | l + 1, v => sq_pi m x v v 0 && sq_po m x l (v + 1)
theorem cz_pi {s : am_S} {m : Nat → Int32} {x v : Nat} {k2 : Int32 → Int32 → am_S → Option (Int32 × am_S)} (R : sq_R s.1 8 m) (ok : sq_Ok m) (hx : x < 64) (hv : v < 6) : ∀ (l u f : Nat), u + l = v → l < f → F_X3_isChoir_50_b15 k2 f (Int32.ofNat x) (Int32.ofNat v) (Int32.ofNat u) s = if sq_pi m x v l u = true then k2 (Int32.ofNat x) (Int32.ofNat (v + 1)) s else some (0, s) := by
  intro l
  induction l with
  | zero =>
    intro u f hl hf
    obtain ⟨f, rfl⟩ : ∃ g, f = g + 1 := ⟨f - 1, by omega⟩
    rw [F_X3_isChoir_50_b15, if_pos (by rw [ix_le (by omega) (by omega)]; omega), ix_addL]
    rfl
  | succ l ih =>
    intro u f hl hf
    obtain ⟨f, rfl⟩ : ∃ g, f = g + 1 := ⟨f - 1, by omega⟩
    rw [F_X3_isChoir_50_b15, if_neg (by rw [ix_le (by omega) (by omega)]; omega), sq_bit2 x hx v hv u (by omega), cz_quar R ok hv (by omega), ix_b1, F_X3_isChoir_50_b44, ix_addL, ih (u + 1) f (by omega) (by omega), sq_pi]
    by_cases hb : (x.testBit v && x.testBit u) = true
    · rw [if_pos hb, if_pos rfl, hb]
      by_cases h : sq_od m v u = true
      · rw [if_pos h, h]; rfl
      · rw [if_neg h, Bool.eq_false_iff.mpr h]; rfl
    · rw [if_neg hb, if_neg (by decide), Bool.eq_false_iff.mpr hb]; rfl
theorem cz_po {s : am_S} {m : Nat → Int32} {x : Nat} (R : sq_R s.1 8 m) (ok : sq_Ok m) (hx : x < 64) : ∀ (l v f : Nat), v + l = sq_cn m → l < f → F_X3_isChoir_50_b2 f (Int32.ofNat x) (Int32.ofNat v) s = some (if sq_po m x l v = true then 1 else 0, s) := by
  obtain ⟨hc, h0⟩ := sq_cn_ok ok
  intro l
  induction l with
  | zero =>
    intro v f hl hf
    obtain ⟨f, rfl⟩ : ∃ g, f = g + 1 := ⟨f - 1, by omega⟩
    rw [F_X3_isChoir_50_b2, R.2.2.2.2.2.1, h0, if_pos (by rw [ix_le (by omega) (by omega)]; omega)]
    rfl
  | succ l ih =>
    intro v f hl hf
    obtain ⟨f, rfl⟩ : ∃ g, f = g + 1 := ⟨f - 1, by omega⟩
    have h := cz_pi (k2 := F_X3_isChoir_50_b2 f) R ok hx (v := v) (by omega) v 0 1000 (by omega) (by omega)
    have h' : F_X3_isChoir_50_b15 (F_X3_isChoir_50_b2 f) 1000 (Int32.ofNat x) (Int32.ofNat v) 0 s = _ := h
    rw [F_X3_isChoir_50_b2, R.2.2.2.2.2.1, h0, if_neg (by rw [ix_le (by omega) (by omega)]; omega), h', ih (v + 1) f (by omega) (by omega), sq_po]
    by_cases hp : sq_pi m x v v 0 = true
    · rw [if_pos hp, hp]; rfl
    · rw [if_neg hp, Bool.eq_false_iff.mpr hp]; rfl
theorem mz_pi {s : am_S} {x v : Nat} {k4 : Int32 → Int32 → Int32 → am_S → Option (Int32 × am_S)} (hx : x < 64) (hv : v < 6) : ∀ (l u f : Nat) (b : Bool), u + l = v → l < f → F_X12_isPeace_82_b17 k4 f (Int32.ofNat x) (if b = true then 1 else 0) (Int32.ofNat v) (Int32.ofNat u) s = k4 (Int32.ofNat x) (if (b && sq_pi (s.1 83) x v l u) = true then 1 else 0) (Int32.ofNat (v + 1)) s := by
  intro l
  induction l with
  | zero =>
    intro u f b hl hf
    obtain ⟨f, rfl⟩ : ∃ g, f = g + 1 := ⟨f - 1, by omega⟩
    rw [F_X12_isPeace_82_b17, if_pos (by rw [ix_le (by omega) (by omega)]; omega), ix_addL, sq_pi, Bool.and_true]
  | succ l ih =>
    intro u f b hl hf
    obtain ⟨f, rfl⟩ : ∃ g, f = g + 1 := ⟨f - 1, by omega⟩
    have ht := ih (u + 1) f true (by omega) (by omega)
    have hff := ih (u + 1) f false (by omega) (by omega)
    simp only [if_true, Bool.true_and] at ht
    simp only [Bool.false_and, Bool.false_eq_true, if_false] at hff
    have e50 : F_X12_isPeace_82_b50 k4 (F_X12_isPeace_82_b17 k4 f) (Int32.ofNat x) (Int32.ofNat v) (Int32.ofNat u) s = k4 (Int32.ofNat x) (if sq_pi (s.1 83) x v l (u + 1) = true then 1 else 0) (Int32.ofNat (v + 1)) s := by
      rw [F_X12_isPeace_82_b50, F_X12_isPeace_82_b55, ix_addL, ht]
    have e54 : F_X12_isPeace_82_b54 k4 (F_X12_isPeace_82_b17 k4 f) (Int32.ofNat x) (Int32.ofNat v) (Int32.ofNat u) s = k4 (Int32.ofNat x) 0 (Int32.ofNat (v + 1)) s := by
      rw [F_X12_isPeace_82_b54, F_X12_isPeace_82_b55, ix_addL, hff]
    rw [F_X12_isPeace_82_b17, if_neg (by rw [ix_le (by omega) (by omega)]; omega), sq_bit2 x hx v hv u (by omega), mz_odds hv (by omega), ix_b1, e50, e54, sq_pi]
    cases b with
    | false => rfl
    | true =>
      rw [if_neg (by decide)]
      by_cases hb : (x.testBit v && x.testBit u) = true
      · rw [if_pos hb, if_neg (by decide), hb]
        by_cases h : sq_od (s.1 83) v u = true
        · rw [if_pos h, h]; rfl
        · rw [if_neg h, Bool.eq_false_iff.mpr h]; rfl
      · rw [if_neg hb, if_pos rfl, Bool.eq_false_iff.mpr hb]; rfl
theorem mz_po {s : am_S} {x : Nat} (ok : sq_Ok (s.1 83)) (hx : x < 64) : ∀ (l v f : Nat) (b : Bool), v + l = sq_cn (s.1 83) → l < f → F_X12_isPeace_82_b4 f (Int32.ofNat x) (if b = true then 1 else 0) (Int32.ofNat v) s = some (if (b && sq_po (s.1 83) x l v) = true then 1 else 0, s) := by
  obtain ⟨hc, h0⟩ := sq_cn_ok ok
  have e0 : s.1 83 (0 : Int32).toNatClampNeg = Int32.ofNat (sq_cn (s.1 83)) := h0
  intro l
  induction l with
  | zero =>
    intro v f b hl hf
    obtain ⟨f, rfl⟩ : ∃ g, f = g + 1 := ⟨f - 1, by omega⟩
    rw [F_X12_isPeace_82_b4, if_pos ix_k0, e0, if_pos (by rw [ix_le (by omega) (by omega)]; omega), sq_po, Bool.and_true]
    cases b <;> rfl
  | succ l ih =>
    intro v f b hl hf
    obtain ⟨f, rfl⟩ : ∃ g, f = g + 1 := ⟨f - 1, by omega⟩
    have h := mz_pi (s := s) (k4 := F_X12_isPeace_82_b4 f) hx (v := v) (by omega) v 0 1000 b (by omega) (by omega)
    have h' : F_X12_isPeace_82_b17 (F_X12_isPeace_82_b4 f) 1000 (Int32.ofNat x) (if b = true then 1 else 0) (Int32.ofNat v) 0 s = _ := h
    rw [F_X12_isPeace_82_b4, if_pos ix_k0, e0, if_neg (by rw [ix_le (by omega) (by omega)]; omega), h', ih (v + 1) f _ (by omega) (by omega), sq_po, Bool.and_assoc]
def sq_pe (m : Nat → Int32) (x : Nat) : Bool := sq_po m x (sq_cn m) 0
theorem cz_pe {s : am_S} {m : Nat → Int32} {x : Nat} (R : sq_R s.1 8 m) (ok : sq_Ok m) (hx : x < 64) : F_X3_isChoir_50 (Int32.ofNat x) s = some (if sq_pe m x = true then 1 else 0, s) := cz_po R ok hx (sq_cn m) 0 1000 (by omega) (by have := (sq_cn_ok ok).1; omega)
theorem mz_pe {s : am_S} {x : Nat} (ok : sq_Ok (s.1 83)) (hx : x < 64) : F_X12_isPeace_82 (Int32.ofNat x) s = some (if sq_pe (s.1 83) x = true then 1 else 0, s) := by
  have h := mz_po ok hx (sq_cn (s.1 83)) 0 1000 true (by omega) (by have := (sq_cn_ok ok).1; omega)
  rw [Bool.true_and] at h
  exact h
def sq_lc (m : Nat → Int32) : Nat → Nat → Nat → Nat
  | 0, _, b => b
  | l + 1, x, b => if sq_pe m x = true ∧ sq_sto m b < sq_sto m x then sq_lc m l (x + 1) x else sq_lc m l (x + 1) b
theorem sq_sh1 : ∀ c, c ≤ 6 → (1 : Int32) <<< (Int32.ofNat c &&& 31) = Int32.ofNat (2 ^ c) := by decide
theorem sq_p2 {c : Nat} (h : c ≤ 6) : 1 ≤ 2 ^ c ∧ 2 ^ c ≤ 64 := ⟨Nat.two_pow_pos c, Nat.pow_le_pow_right (n := 2) (j := 6) (by decide) h⟩
theorem ix_nlt {a b : Int32} (h : ¬ a ≤ b) : b < a := by rw [ix_le'] at h; rw [ix_lt']; omega
theorem ix_nle {a b : Int32} (h : a ≤ b) : ¬ b < a := by rw [ix_le'] at h; rw [ix_lt']; omega
theorem cz_lc {s : am_S} {m : Nat → Int32} (R : sq_R s.1 8 m) (ok : sq_Ok m) : ∀ (l x f b : Nat), x + l = 2 ^ sq_cn m → l < f → b < 64 → sq_lc m l x b < 64 ∧ F_X3_loudestChoir_50_b6 f (Int32.ofNat b) (sq_sto m b) (Int32.ofNat x) s = some (Int32.ofNat (sq_lc m l x b), s) := by
  obtain ⟨hc, h0⟩ := sq_cn_ok ok
  obtain ⟨hp1, hp2⟩ := sq_p2 hc
  intro l
  induction l with
  | zero =>
    intro x f b hl hf hb
    obtain ⟨f, rfl⟩ : ∃ g, f = g + 1 := ⟨f - 1, by omega⟩
    refine ⟨hb, ?_⟩
    rw [F_X3_loudestChoir_50_b6, R.2.2.2.2.2.1, h0, sq_sh1 _ hc, if_pos (by rw [ix_le (by omega) (by omega)]; omega)]
    rfl
  | succ l ih =>
    intro x f b hl hf hb
    obtain ⟨f, rfl⟩ : ∃ g, f = g + 1 := ⟨f - 1, by omega⟩
    obtain ⟨i1, i2⟩ := ih (x + 1) f b (by omega) (by omega) hb
    obtain ⟨j1, j2⟩ := ih (x + 1) f x (by omega) (by omega) (by omega)
    rw [F_X3_loudestChoir_50_b6, R.2.2.2.2.2.1, h0, sq_sh1 _ hc, if_neg (by rw [ix_le (by omega) (by omega)]; omega), cz_sto R ok (by omega), ix_b1, sq_lc]
    dsimp only
    rw [cz_pe R ok (by omega), ix_b1, F_X3_loudestChoir_50_b45, F_X3_loudestChoir_50_b45, ix_addL]
    by_cases h1 : sq_sto m x ≤ sq_sto m b
    · rw [if_pos h1, if_neg (fun z => ix_nle h1 z.2)]
      exact ⟨i1, i2⟩
    · rw [if_neg h1]
      by_cases h2 : sq_pe m x = true
      · have h3 : sq_pe m x = true ∧ sq_sto m b < sq_sto m x := ⟨h2, ix_nlt h1⟩
        rw [if_pos h2, if_neg (show ¬ (1 : Int32) = 0 by decide), if_pos h3]
        exact ⟨j1, j2⟩
      · have h3 : ¬ (sq_pe m x = true ∧ sq_sto m b < sq_sto m x) := fun z => h2 z.1
        rw [if_neg h2, if_pos rfl, if_neg h3]
        exact ⟨i1, i2⟩
theorem mz_lc {s : am_S} {w : Int32} (ok : sq_Ok (s.1 83)) : ∀ (l x f b : Nat), x + l = 2 ^ sq_cn (s.1 83) → l < f → b < 64 → F_X12_choir_82_b16 f w (Int32.ofNat b) (Int32.ofNat x) s = some (if w = 0 then Int32.ofNat (sq_lc (s.1 83) l x b) else sq_sto (s.1 83) (sq_lc (s.1 83) l x b), s) := by
  obtain ⟨hc, h0⟩ := sq_cn_ok ok
  obtain ⟨hp1, hp2⟩ := sq_p2 hc
  have e0 : s.1 83 (0 : Int32).toNatClampNeg = Int32.ofNat (sq_cn (s.1 83)) := h0
  intro l
  induction l with
  | zero =>
    intro x f b hl hf hb
    obtain ⟨f, rfl⟩ : ∃ g, f = g + 1 := ⟨f - 1, by omega⟩
    rw [F_X12_choir_82_b16, if_pos ix_k0, e0, sq_sh1 _ hc, if_pos (by rw [ix_le (by omega) (by omega)]; omega), mz_sto ok hb, ix_b1, sq_lc]
    split <;> rfl
  | succ l ih =>
    intro x f b hl hf hb
    obtain ⟨f, rfl⟩ : ∃ g, f = g + 1 := ⟨f - 1, by omega⟩
    rw [F_X12_choir_82_b16, if_pos ix_k0, e0, sq_sh1 _ hc, if_neg (by rw [ix_le (by omega) (by omega)]; omega), mz_pe ok (by omega), ix_b1, sq_lc]
    dsimp only
    rw [mz_sto ok (by omega), ix_b1]
    dsimp only
    rw [mz_sto ok hb, ix_b1, F_X12_choir_82_b53, F_X12_choir_82_b54, F_X12_choir_82_b54, ix_addL, ih (x + 1) f b (by omega) (by omega) hb, ih (x + 1) f x (by omega) (by omega) (by omega)]
    by_cases h2 : sq_pe (s.1 83) x = true
    · rw [if_pos h2, if_neg (by decide)]
      by_cases h1 : sq_sto (s.1 83) x ≤ sq_sto (s.1 83) b
      · rw [if_pos h1, if_neg (show ¬ (sq_pe (s.1 83) x = true ∧ sq_sto (s.1 83) b < sq_sto (s.1 83) x) from fun z => ix_nle h1 z.2)]
      · rw [if_neg h1, if_pos (show sq_pe (s.1 83) x = true ∧ sq_sto (s.1 83) b < sq_sto (s.1 83) x from ⟨h2, ix_nlt h1⟩)]
    · rw [if_neg h2, if_pos rfl, if_neg (show ¬ (sq_pe (s.1 83) x = true ∧ sq_sto (s.1 83) b < sq_sto (s.1 83) x) from fun z => h2 z.1)]
theorem ag_choir {a : Int32} : jz_A (F_X11_choir_0 a) (F_X12_choir_82 a) := by
  intro s j
  obtain ⟨ok, R⟩ := j.1
  obtain ⟨hc, h0⟩ := sq_cn_ok ok
  obtain ⟨hp1, hp2⟩ := sq_p2 hc
  by_cases h1 : (0 : Int32) ≤ a ∧ a ≤ 1
  · obtain ⟨c1, c2⟩ := cz_lc R ok (2 ^ sq_cn (s.1 83) - 1) 1 1000 0 (by omega) (by omega) (by omega)
    have d := mz_lc (w := a) ok (2 ^ sq_cn (s.1 83) - 1) 1 1000 0 (by omega) (by omega) (by omega)
    have e0 : sq_sto (s.1 83) 0 = 0 := sq_stl0 _ _ _ (by omega) _
    rw [e0] at c2
    have c2' : F_X3_loudestChoir_50_b6 1000 0 0 1 s = _ := c2
    have d' : F_X12_choir_82_b16 1000 a 0 1 s = _ := d
    refine jz_A0 (v := if a = 0 then Int32.ofNat (sq_lc (s.1 83) (2 ^ sq_cn (s.1 83) - 1) 1 0) else sq_sto (s.1 83) (sq_lc (s.1 83) (2 ^ sq_cn (s.1 83) - 1) 1 0)) j ?_ ?_
    · simp only [F_X11_choir_0, ix_cw, ix_wi_p h1, ix_b1, ix_10, ix_00, if_true, if_false]
      unfold F_X3_loudestChoir_50
      rw [c2', ix_b1]
      dsimp only
      rw [cz_sto R ok c1, ix_b1]
      split <;> rfl
    · simp only [F_X12_choir_82, mz_in0x1, ix_wi_p h1, ix_b1, ix_10, ix_00, if_true, if_false]
      exact d'
  · exact jz_A0 (v := -1) j (by simp only [F_X11_choir_0, ix_cw, ix_wi_n h1, ix_b1, ix_10, ix_00, if_true, if_false]) (by simp only [F_X12_choir_82, mz_in0x1, ix_wi_n h1, ix_b1, ix_10, ix_00, if_true, if_false])
