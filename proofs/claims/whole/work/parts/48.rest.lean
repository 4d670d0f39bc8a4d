/-! LAYER 2: turn, on, when, meshFor, placeFor agree (written by wip/whole/l2/gen48.py) -/
def sq_pC (k : Nat) : Bool := (8 ≤ k && k < 24) || (51 ≤ k && k < 64) || k == 65
def sq_pM (k : Nat) : Bool := k == 83 || k == 85 || k == 86 || (88 ≤ k && k < 91)
theorem sq_pC2 {s t : am_S} (h : ix_Fr sq_pC s t) : ix_F2 sq_pS s t := h.F2 (fun k j hk => by
  unfold sq_pS at hk; unfold sq_pC
  simp at hk ⊢; omega)
theorem sq_pM2 {s t : am_S} (h : ix_Fr sq_pM s t) : ix_F2 sq_pS s t := h.F2 (fun k j hk => by
  unfold sq_pS at hk; unfold sq_pM
  simp at hk ⊢; omega)
theorem sq_pM8 {s t : am_S} (h : ix_Fr sq_pM s t) (k : Nat) (hk : k < 83) : t.1 k = s.1 k := h.1 k (by unfold sq_pM; simp; omega)
theorem sq_pC8 {s t : am_S} (h : ix_Fr sq_pC s t) (k : Nat) (hk : 66 ≤ k) : t.1 k = s.1 k := h.1 k (by unfold sq_pC; simp; omega)
/-- a class's and a model's run over the sea alone, put together -/
theorem jz_cm {s s1 s2 : am_S} {m' : Nat → Int32} (j : jz_J s) (R1 : sq_R s1.1 8 m') (f1 : ix_Fr sq_pC s s1) (f2 : ix_Fr sq_pM s1 s2) (h83 : s2.1 83 = m') (ok : sq_Ok m') : jz_J s2 :=
  jz_fin j R1 (sq_pC2 f1) (sq_pM2 f2) (fun k _ h => sq_pM8 f2 k (by omega)) h83 ok
def sq_rs : Nat → (Nat → Int32) → Int32 → (Nat → Int32) × Int32
  | 0, m, w => (m, w)
  | l + 1, m, w => if m 3 < m 2 then sq_rs l (sq_go m (sq_la m)).1 (w + (sq_go m (sq_la m)).2) else (m, w)
theorem sq_rs_ok : ∀ (l n : Nat) (m : Nat → Int32), sq_Ok m → sq_Ok (sq_rs l m (Int32.ofNat n)).1 ∧ (∀ j, ¬ sq_ch j → (sq_rs l m (Int32.ofNat n)).1 j = m j) ∧ ∃ n', n' ≤ n + 108 * l ∧ (sq_rs l m (Int32.ofNat n)).2 = Int32.ofNat n' := by
  intro l
  induction l with
  | zero => intro n m ok; exact ⟨ok, fun _ _ => rfl, n, by omega, rfl⟩
  | succ l ih =>
    intro n m ok
    rw [sq_rs]
    split
    · rename_i h
      obtain ⟨g1, g2, g3, k, g4, g5⟩ := sq_go_ok (a := sq_la m) ok h
      rw [g5, ix_add]
      obtain ⟨i1, i2, n', i3, i4⟩ := ih (n + k) _ g1
      exact ⟨i1, fun j hj => (i2 j hj).trans (g2 j hj), n', by omega, i4⟩
    · exact ⟨ok, fun _ _ => rfl, n, by omega, rfl⟩
theorem cz_restL {n : Nat} {m0 : Nat → Int32} (hn : n ≤ 1000) : ∀ (l i f : Nat) (s : am_S) (m : Nat → Int32) (w : Int32), sq_R s.1 8 m → sq_Ok m → sq_mo (s.1 51) m0 → (∀ j, ¬ sq_ch j → m j = m0 j) → i + l = n → l < f → ∃ s', F_X3_worthOfRest_50_b8 f (Int32.ofNat n) w (Int32.ofNat i) s = some ((sq_rs l m w).2, s') ∧ sq_R s'.1 8 m0 ∧ ix_Fr sq_pC s s' := by
  intro l
  induction l with
  | zero =>
    intro i f s m w R ok hmo hm hl hf
    obtain ⟨f, rfl⟩ : ∃ g, f = g + 1 := ⟨f - 1, by omega⟩
    obtain ⟨s', b1, b2, b3⟩ := cz_goBack R hm hmo
    refine ⟨s', ?_, b2, b3.wd (fun k hk => by unfold sq_pC at hk; simp at hk ⊢; omega)⟩
    rw [F_X3_worthOfRest_50_b8, if_pos (by rw [ix_le (by omega) (by omega)]; omega), F_X3_worthOfRest_50_b46, b1]
    rfl
  | succ l ih =>
    intro i f s m w R ok hmo hm hl hf
    obtain ⟨f, rfl⟩ : ∃ g, f = g + 1 := ⟨f - 1, by omega⟩
    rw [F_X3_worthOfRest_50_b8, if_neg (by rw [ix_le (by omega) (by omega)]; omega), cz_over R ok, ix_b1, sq_rs]
    dsimp only
    by_cases h : m 3 < m 2
    · rw [if_pos h, if_pos rfl, cz_la R ok, ix_b1, if_pos h]
      dsimp only
      obtain ⟨s1, g1, g2, g3⟩ := cz_goBy R ok h (sq_la_le m)
      obtain ⟨k1, k2, k3, -⟩ := sq_go_ok (a := sq_la m) ok h
      rw [g1, ix_b1, ix_addL]
      obtain ⟨s', i1, i2, i3⟩ := ih (i + 1) f s1 _ (w + (sq_go m (sq_la m)).2) g2 k1 (by rw [g3.1 51 rfl]; exact hmo) (fun j hj => (k2 j hj).trans (hm j hj)) (by omega) (by omega)
      exact ⟨s', i1, i2, (g3.wd (fun k hk => by unfold sq_pC at hk; simp at hk ⊢; omega)).tr i3⟩
    · rw [if_neg h, if_neg (by decide), if_neg h]
      obtain ⟨s', b1, b2, b3⟩ := cz_goBack R hm hmo
      refine ⟨s', ?_, b2, b3.wd (fun k hk => by unfold sq_pC at hk; simp at hk ⊢; omega)⟩
      rw [F_X3_worthOfRest_50_b46, b1]
      rfl
theorem cz_rest {s : am_S} {m : Nat → Int32} {n : Nat} (R : sq_R s.1 8 m) (ok : sq_Ok m) (hn : n ≤ 16) : ∃ s', F_X3_worthOfRest_50 (Int32.ofNat n) s = some ((sq_rs n m 0).2, s') ∧ sq_R s'.1 8 m ∧ ix_Fr sq_pC s s' := by
  obtain ⟨s1, r1, r2, r3⟩ := cz_rem R
  have R1 : sq_R s1.1 8 m := sq_R_fr (fun k h1 h2 => r3.1 k (by simp; omega)) R
  obtain ⟨s', i1, i2, i3⟩ := cz_restL (n := n) (m0 := m) (by omega) n 0 1000 s1 m 0 R1 ok r2 (fun _ _ => rfl) (by omega) (by omega)
  refine ⟨s', ?_, i2, (r3.wd (fun k hk => by unfold sq_pC at hk; simp at hk ⊢; omega)).tr i3⟩
  unfold F_X3_worthOfRest_50
  rw [r1, ix_b1]
  exact i1
theorem mz_restL {n : Nat} (hn : n ≤ 1000) : ∀ (l i f : Nat) (s : am_S) (w : Int32), sq_Ok (s.1 83) → i + l = n → l < f → ∃ s', F_X12_rest_82_b4 f (Int32.ofNat n) w (Int32.ofNat i) s = some ((sq_rs l (s.1 83) w).2, s') ∧ s'.1 83 = (sq_rs l (s.1 83) w).1 ∧ ix_Fr (fun q => q == 83 || q == 86) s s' := by
  intro l
  induction l with
  | zero =>
    intro i f s w ok hl hf
    obtain ⟨f, rfl⟩ : ∃ g, f = g + 1 := ⟨f - 1, by omega⟩
    refine ⟨s, ?_, rfl, ix_Fr.rf⟩
    rw [F_X12_rest_82_b4, if_pos (by rw [ix_le (by omega) (by omega)]; omega)]
    rfl
  | succ l ih =>
    intro i f s w ok hl hf
    obtain ⟨f, rfl⟩ : ∃ g, f = g + 1 := ⟨f - 1, by omega⟩
    rw [F_X12_rest_82_b4, if_neg (by rw [ix_le (by omega) (by omega)]; omega), mz_over, ix_b1, sq_rs]
    dsimp only
    by_cases h : s.1 83 3 < s.1 83 2
    · rw [if_pos h, if_pos rfl, mz_la ok, ix_b1, if_pos h]
      dsimp only
      obtain ⟨s1, g1, g2, g3⟩ := mz_goes ok (sq_lt16 ok h) (sq_la_le (s.1 83))
      obtain ⟨k1, k2, k3, -⟩ := sq_go_ok (a := sq_la (s.1 83)) ok h
      rw [g1, ix_b1, ix_addL]
      obtain ⟨s', i1, i2, i3⟩ := ih (i + 1) f s1 (w + (sq_go (s.1 83) (sq_la (s.1 83))).2) (by rw [g2]; exact k1) (by omega) (by omega)
      rw [g2] at i1 i2
      exact ⟨s', i1, i2, g3.tr i3⟩
    · rw [if_neg h, if_neg (by decide), if_neg h]
      exact ⟨s, rfl, rfl, ix_Fr.rf⟩
theorem mz_restTried {s : am_S} {n : Nat} (ok : sq_Ok (s.1 83)) (hn : n ≤ 16) : ∃ s', F_X12_restTried_82 (Int32.ofNat n) s = some ((sq_rs n (s.1 83) 0).2, s') ∧ s'.1 83 = s.1 83 ∧ ix_Fr sq_pM s s' := by
  obtain ⟨s1, p1, p2, p3⟩ := mz_puts s
  have h83 : s1.1 83 = s.1 83 := p3.1 83 rfl
  obtain ⟨s2, i1, i2, i3⟩ := mz_restL (n := n) (by omega) n 0 1000 s1 0 (by rw [h83]; exact ok) (by omega) (by omega)
  rw [h83] at i1 i2
  obtain ⟨k1, k2, -⟩ := sq_rs_ok n 0 (s.1 83) ok
  have k2' : ∀ q, ¬ sq_ch q → (sq_rs n (s.1 83) 0).1 q = s.1 83 q := k2
  obtain ⟨s3, b1, b2, b3⟩ := mz_back (s := s2) (m := s.1 83) (fun q hq => by rw [i3.1 85 rfl]; exact p2 q hq) (fun q hq => by rw [i2]; exact k2' q (by unfold sq_ch; omega))
  refine ⟨s3, ?_, b2, ((p3.wd (fun k hk => by unfold sq_pM at hk; simp at hk ⊢; omega)).tr (i3.wd (fun k hk => by unfold sq_pM at hk; simp at hk ⊢; omega))).tr (b3.wd (fun k hk => by unfold sq_pM at hk; simp at hk ⊢; omega))⟩
  have i1' : F_X12_rest_82 (Int32.ofNat n) s1 = some ((sq_rs n (s.1 83) 0).2, s2) := i1
  unfold F_X12_restTried_82
  rw [p1, ix_b1, i1', ix_b1]
  dsimp only
  rw [b1, ix_b1]
theorem ag_on {a : Int32} : jz_A (F_X11_on_0 a) (F_X12_on_82 a) := by
  intro s j
  obtain ⟨ok, R⟩ := j.1
  by_cases h1 : (0 : Int32) ≤ a ∧ a ≤ 16
  · obtain ⟨n, -, hn, rfl⟩ := ix_rng (a := 0) (b := 16) (by omega) (by omega) h1
    obtain ⟨s1, c1, c2, c3⟩ := cz_rest R ok hn
    have h83 : s1.1 83 = s.1 83 := sq_pC8 c3 83 (by omega)
    obtain ⟨s2, d1, d2, d3⟩ := mz_restTried (s := s1) (n := n) (by rw [h83]; exact ok) hn
    rw [h83] at d1 d2
    refine ⟨(sq_rs n (s.1 83) 0).2, s1, s2, ?_, ?_, jz_cm j c2 c3 d3 d2 ok⟩
    · simp only [F_X11_on_0, ix_cw, ix_wi_p h1, ix_b1, ix_10, ix_00, if_true, if_false]
      rw [c1]; rfl
    · simp only [F_X12_on_82, mz_in0x16, ix_wi_p h1, ix_b1, ix_10, ix_00, if_true, if_false]
      rw [d1]; rfl
  · exact jz_A0 (v := -1) j (by simp only [F_X11_on_0, ix_cw, ix_wi_n h1, ix_b1, ix_10, ix_00, if_true, if_false]) (by simp only [F_X12_on_82, mz_in0x16, ix_wi_n h1, ix_b1, ix_10, ix_00, if_true, if_false])
theorem ag_turn : jz_A F_X11_turn_0 F_X12_turn_82 := by
  intro s j
  obtain ⟨ok, R⟩ := j.1
  by_cases h : s.1 83 3 < s.1 83 2
  · obtain ⟨s1, g1, g2, g3⟩ := cz_goBy R ok h (sq_la_le (s.1 83))
    have f1 : ix_Fr sq_pC s s1 := g3.wd (fun k hk => by unfold sq_pC at hk; simp at hk ⊢; omega)
    have h83 : s1.1 83 = s.1 83 := sq_pC8 f1 83 (by omega)
    obtain ⟨s2, d1, d2, d3⟩ := mz_goes (s := s1) (a := sq_la (s.1 83)) (by rw [h83]; exact ok) (by rw [h83]; exact sq_lt16 ok h) (by rw [h83]; exact sq_la_le _)
    rw [h83] at d1 d2
    obtain ⟨k1, -⟩ := sq_go_ok (a := sq_la (s.1 83)) ok h
    refine ⟨(sq_go (s.1 83) (sq_la (s.1 83))).2, s1, s2, ?_, ?_, jz_cm j g2 f1 (d3.wd (fun k hk => by unfold sq_pM at hk; simp at hk ⊢; omega)) d2 k1⟩
    · unfold F_X11_turn_0
      rw [cz_over R ok, if_pos h, ix_b1]
      dsimp only
      rw [if_pos rfl, cz_la R ok, ix_b1, g1]
      rfl
    · unfold F_X12_turn_82
      rw [mz_over, h83, if_pos h, ix_b1]
      dsimp only
      rw [if_pos rfl, mz_la (by rw [h83]; exact ok), h83, ix_b1, d1]
      rfl
  · refine jz_A0 (v := -4) j ?_ ?_
    · unfold F_X11_turn_0
      rw [cz_over R ok, if_neg h]; rfl
    · unfold F_X12_turn_82
      rw [mz_over, if_neg h]; rfl
/-! when -/
def sq_wn (v : Nat) : Nat → (Nat → Int32) → (Nat → Int32)
  | 0, m => m
  | l + 1, m => if m 3 < m 2 then (if m (24 + 5 * v + 4) = 0 then sq_wn v l (sq_go m (sq_la m)).1 else m) else m
theorem sq_wn_ok {v : Nat} : ∀ (l : Nat) (m : Nat → Int32), sq_Ok m → sq_Ok (sq_wn v l m) ∧ ∀ j, ¬ sq_ch j → sq_wn v l m j = m j := by
  intro l
  induction l with
  | zero => intro m ok; exact ⟨ok, fun _ _ => rfl⟩
  | succ l ih =>
    intro m ok
    rw [sq_wn]
    split
    · rename_i h
      split
      · obtain ⟨g1, g2, -⟩ := sq_go_ok (a := sq_la m) ok h
        obtain ⟨i1, i2⟩ := ih _ g1
        exact ⟨i1, fun j hj => (i2 j hj).trans (g2 j hj)⟩
      · exact ⟨ok, fun _ _ => rfl⟩
    · exact ⟨ok, fun _ _ => rfl⟩
def sq_wr (v : Nat) (m : Nat → Int32) : Int32 := if m (24 + 5 * v + 4) = 0 then -3 else m 3 - 1
theorem cz_whenE {s : am_S} {m m0 : Nat → Int32} {v : Nat} (hv : v < 6) (R : sq_R s.1 8 m) (ok : sq_Ok m) (hmo : sq_mo (s.1 51) m0) (hm : ∀ j, ¬ sq_ch j → m j = m0 j) : ∃ s', F_X3_turnOfCatch_50_b68 (Int32.ofNat v) s = some (sq_wr v m, s') ∧ sq_R s'.1 8 m0 ∧ ix_Fr sq_pC s s' := by
  obtain ⟨s', b1, b2, b3⟩ := cz_goBack R hm hmo
  refine ⟨s', ?_, b2, b3.wd (fun k hk => by unfold sq_pC at hk; simp at hk ⊢; omega)⟩
  unfold F_X3_turnOfCatch_50_b68 F_X3_turnOfCatch_50_b93 sq_wr
  rw [cz_caught R ok hv, ix_b1]
  dsimp only
  rw [R.1, b1]
  split <;> rfl
theorem cz_whenL {v : Nat} {m0 : Nat → Int32} (hv : v < 6) : ∀ (l i f : Nat) (s : am_S) (m : Nat → Int32), sq_R s.1 8 m → sq_Ok m → sq_mo (s.1 51) m0 → (∀ j, ¬ sq_ch j → m j = m0 j) → i + l = 16 → l < f → ∃ s', F_X3_turnOfCatch_50_b20 f (Int32.ofNat v) (Int32.ofNat i) s = some (sq_wr v (sq_wn v l m), s') ∧ sq_R s'.1 8 m0 ∧ ix_Fr sq_pC s s' := by
  intro l
  induction l with
  | zero =>
    intro i f s m R ok hmo hm hl hf
    obtain ⟨f, rfl⟩ : ∃ g, f = g + 1 := ⟨f - 1, by omega⟩
    rw [F_X3_turnOfCatch_50_b20, if_pos (by rw [ix_Lle (by omega) (by omega)]; omega)]
    exact cz_whenE hv R ok hmo hm
  | succ l ih =>
    intro i f s m R ok hmo hm hl hf
    obtain ⟨f, rfl⟩ : ∃ g, f = g + 1 := ⟨f - 1, by omega⟩
    rw [F_X3_turnOfCatch_50_b20, if_neg (by rw [ix_Lle (by omega) (by omega)]; omega), cz_over R ok, ix_b1, sq_wn]
    dsimp only
    by_cases h : m 3 < m 2
    · rw [if_pos h, if_pos rfl, cz_caught R ok hv, ix_b1, if_pos h]
      dsimp only
      by_cases hc : m (24 + 5 * v + 4) = 0
      · rw [if_pos hc, cz_la R ok, ix_b1, if_pos hc]
        dsimp only
        obtain ⟨s1, g1, g2, g3⟩ := cz_goBy R ok h (sq_la_le m)
        obtain ⟨k1, k2, k3, -⟩ := sq_go_ok (a := sq_la m) ok h
        rw [g1, ix_b1, ix_addL]
        obtain ⟨s', i1, i2, i3⟩ := ih (i + 1) f s1 _ g2 k1 (by rw [g3.1 51 rfl]; exact hmo) (fun j hj => (k2 j hj).trans (hm j hj)) (by omega) (by omega)
        exact ⟨s', i1, i2, (g3.wd (fun k hk => by unfold sq_pC at hk; simp at hk ⊢; omega)).tr i3⟩
      · rw [if_neg hc, if_neg hc]
        exact cz_whenE hv R ok hmo hm
    · rw [if_neg h, if_neg (by decide), if_neg h]
      exact cz_whenE hv R ok hmo hm
theorem mz_whenE {s : am_S} {m0 : Nat → Int32} {v : Nat} (hv : v < 6) (ok : sq_Ok (s.1 83)) (h85 : ∀ q, q < 296 → s.1 85 q = m0 q) (hm : ∀ j, ¬ sq_ch j → s.1 83 j = m0 j) : ∃ s', F_X12_when_82_b55 (Int32.ofNat v) s = some (sq_wr v (s.1 83), s') ∧ s'.1 83 = m0 ∧ ix_Fr sq_pM s s' := by
  obtain ⟨s', b1, b2, b3⟩ := mz_back (s := s) (m := m0) h85 (fun q hq => hm q (by unfold sq_ch; omega))
  refine ⟨s', ?_, b2, b3.wd (fun k hk => by unfold sq_pM at hk; simp at hk ⊢; omega)⟩
  unfold F_X12_when_82_b55 F_X12_when_82_b78 sq_wr
  rw [mz_its4 hv, ix_b1, if_pos ix_k3]
  dsimp only
  rw [b1]
  obtain ⟨n, hn, en⟩ := (ok.2.2.2.2.2.1 v hv).2.2.2.2
  have hn2 : n = 0 ∨ n = 1 := by omega
  rcases hn2 with rfl | rfl
  · rw [en]; rfl
  · rw [en]; rfl
theorem mz_whenL {v : Nat} {m0 : Nat → Int32} (hv : v < 6) : ∀ (l f : Nat) (s : am_S), sq_Ok (s.1 83) → (∀ q, q < 296 → s.1 85 q = m0 q) → (∀ j, ¬ sq_ch j → s.1 83 j = m0 j) → 16 ≤ l + sq_tn (s.1 83) → l < f → ∃ s', F_X12_when_82_b27 f (Int32.ofNat v) s = some (sq_wr v (sq_wn v l (s.1 83)), s') ∧ s'.1 83 = m0 ∧ ix_Fr sq_pM s s' := by
  intro l
  induction l with
  | zero =>
    intro f s ok h85 hm hl hf
    obtain ⟨f, rfl⟩ : ∃ g, f = g + 1 := ⟨f - 1, by omega⟩
    have h : ¬ s.1 83 3 < s.1 83 2 := fun z => by have := sq_lt16 ok z; omega
    rw [F_X12_when_82_b27, mz_over, ix_b1, if_neg h, if_neg (show ¬ (1 : Int32) = 0 by decide)]
    exact mz_whenE hv ok h85 hm
  | succ l ih =>
    intro f s ok h85 hm hl hf
    obtain ⟨f, rfl⟩ : ∃ g, f = g + 1 := ⟨f - 1, by omega⟩
    rw [F_X12_when_82_b27, mz_over, ix_b1, sq_wn]
    dsimp only
    by_cases h : s.1 83 3 < s.1 83 2
    · rw [if_pos h, if_pos rfl, mz_its4 hv, ix_b1, if_pos h]
      dsimp only
      by_cases hc : s.1 83 (24 + 5 * v + 4) = 0
      · rw [if_pos hc, mz_la ok, ix_b1, if_pos hc]
        dsimp only
        obtain ⟨s1, g1, g2, g3⟩ := mz_goes ok (sq_lt16 ok h) (sq_la_le (s.1 83))
        obtain ⟨k1, k2, k3, -⟩ := sq_go_ok (a := sq_la (s.1 83)) ok h
        have hE := sq_lt16 ok h
        have ht1 : sq_tn (s1.1 83) = sq_tn (s.1 83) + 1 := by
          have e := (sq_tn_ok ok).2
          rw [g2]; unfold sq_tn at e ⊢; unfold sq_tn at hE
          rw [k3, e, ix_addL, ix_nat (by omega), ix_nat (by omega)]
        rw [g1, ix_b1]
        obtain ⟨s', i1, i2, i3⟩ := ih f s1 (by rw [g2]; exact k1) (by rw [g3.1 85 rfl]; exact h85) (fun q hq => by rw [g2]; exact (k2 q hq).trans (hm q hq)) (by rw [ht1]; omega) (by omega)
        rw [g2] at i1
        exact ⟨s', i1, i2, (g3.wd (fun k hk => by unfold sq_pM at hk; simp at hk ⊢; omega)).tr i3⟩
      · rw [if_neg hc, if_neg hc]
        exact mz_whenE hv ok h85 hm
    · rw [if_neg h, if_neg (by decide), if_neg h]
      exact mz_whenE hv ok h85 hm
theorem ag_when {a : Int32} : jz_A (F_X11_when_0 a) (F_X12_when_82 a) := by
  intro s j
  obtain ⟨ok, R⟩ := j.1
  by_cases h1 : 0 ≤ a ∧ a < s.1 83 0
  rotate_left
  · exact jz_A0 (v := -1) j (by simp only [F_X11_when_0, cz_has R, if_neg h1, ix_b1, ix_10, ix_00, if_true, if_false]) (by simp only [F_X12_when_82, mz_isVoice ok, if_neg h1, ix_b1, ix_10, ix_00, if_true, if_false])
  obtain ⟨v, hv, hv6, rfl⟩ := sq_isv ok h1
  have hiv : ∀ t : am_S, t.1 83 = s.1 83 → F_X12_isVoice_82 (Int32.ofNat v) t = some (1, t) := fun t ht => by
    have hi := mz_isVoice (x := Int32.ofNat v) (s := t) (by rw [ht]; exact ok)
    rw [ht, if_pos h1] at hi
    exact hi
  obtain ⟨n, hn, en⟩ := (ok.2.2.2.2.2.1 v hv6).2.2.2.2
  have hn2 : n = 0 ∨ n = 1 := by omega
  rcases hn2 with rfl | rfl
  · obtain ⟨s0, r1, r2, r3⟩ := cz_rem R
    have R1 : sq_R s0.1 8 (s.1 83) := sq_R_fr (fun k h1 h2 => r3.1 k (by simp; omega)) R
    obtain ⟨s1, c1, c2, c3⟩ := cz_whenL (m0 := s.1 83) hv6 16 0 1000 s0 (s.1 83) R1 ok r2 (fun _ _ => rfl) (by omega) (by omega)
    have f1 : ix_Fr sq_pC s s1 := (r3.wd (fun k hk => by unfold sq_pC at hk; simp at hk ⊢; omega)).tr c3
    have h83 : s1.1 83 = s.1 83 := sq_pC8 f1 83 (by omega)
    obtain ⟨s2, p1, p2, p3⟩ := mz_puts s1
    have h832 : s2.1 83 = s.1 83 := (p3.1 83 rfl).trans h83
    obtain ⟨s3, d1, d2, d3⟩ := mz_whenL (m0 := s.1 83) hv6 16 1000 s2 (by rw [h832]; exact ok) (fun q hq => by rw [p2 q hq, h83]) (fun q _ => by rw [h832]) (by omega) (by omega)
    rw [h832] at d1
    refine ⟨sq_wr v (sq_wn v 16 (s.1 83)), s1, s3, ?_, ?_, jz_cm j c2 f1 ((p3.wd (fun k hk => by unfold sq_pM at hk; simp at hk ⊢; omega)).tr d3) d2 ok⟩
    · unfold F_X11_when_0 F_X3_turnOfCatch_50
      rw [cz_has R, if_pos h1, ix_b1, if_neg (show ¬ (1 : Int32) = 0 by decide)]
      dsimp only
      rw [cz_caught R ok hv6, ix_b1]
      dsimp only
      rw [en, if_pos (by decide), r1, ix_b1]
      have c1' : F_X3_turnOfCatch_50_b20 1000 (Int32.ofNat v) 0 s0 = _ := c1
      rw [c1']
      rfl
    · unfold F_X12_when_82
      rw [hiv s1 h83, ix_b1, if_neg (show ¬ (1 : Int32) = 0 by decide)]
      dsimp only
      rw [mz_its4 hv6, ix_b1]
      dsimp only
      rw [h83, en, if_neg (by decide), p1, ix_b1, d1]
  · refine jz_A0 (v := -3) j ?_ ?_
    · unfold F_X11_when_0 F_X3_turnOfCatch_50
      rw [cz_has R, if_pos h1, ix_b1, if_neg (show ¬ (1 : Int32) = 0 by decide)]
      dsimp only
      rw [cz_caught R ok hv6, ix_b1]
      dsimp only
      rw [en, if_neg (by decide)]
      rfl
    · unfold F_X12_when_82
      rw [hiv s rfl, ix_b1, if_neg (show ¬ (1 : Int32) = 0 by decide)]
      dsimp only
      rw [mz_its4 hv6, ix_b1]
      dsimp only
      rw [en, if_pos (by decide)]
