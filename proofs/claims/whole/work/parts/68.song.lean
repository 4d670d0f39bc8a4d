/-! LAYER 2: what the voices sing (written by wip/whole/l2/gen68.py) -/
abbrev sq_T : Type := Nat × (Nat → Int32) × Bool
def sq_rc (c : Int32) (T : sq_T) : sq_T := if T.2.2 = true then T else (T.1 + 1, (if T.1 < 30 then upd T.2.1 T.1 c else T.2.1), false)
def sq_hm0 (v x : Int32) (T : sq_T) : Int32 × sq_T := (x * 3 - v, sq_rc 10 T)
def sq_hum (k : Nat) (v x : Int32) (T : sq_T) : Int32 × sq_T := if k = 1 then ((sq_hm0 v x (sq_rc 20 T)).1 + 7, (sq_hm0 v x (sq_rc 20 T)).2) else if k = 3 then sq_hm0 v (x - 1) (sq_rc 50 T) else sq_hm0 v x T
def sq_cb (k : Nat) (v r x : Int32) (T : sq_T) : Int32 × sq_T := ((sq_hum k v x (sq_rc 11 T)).1 + r, (sq_hum k v x (sq_rc 11 T)).2)
def sq_call (k : Nat) (v r x : Int32) (T : sq_T) : Int32 × sq_T := if k = 2 ∨ k = 3 then (0 - (sq_cb k v r x (sq_rc 30 T)).1, (sq_cb k v r x (sq_rc 30 T)).2) else if k = 5 then ((sq_cb k v r x (sq_rc 60 T)).1 ^^^ 9, (sq_cb k v r x (sq_rc 60 T)).2) else sq_cb k v r x T
def sq_pb (v r x : Int32) (T : sq_T) : Int32 × sq_T := if v - r = 0 then (0, ((sq_rc 12 T).1, (sq_rc 12 T).2.1, true)) else (x / (v - r), sq_rc 12 T)
def sq_part (k : Nat) (v r x : Int32) (T : sq_T) : Int32 × sq_T := if k = 4 then ((sq_pb v r x (sq_rc 40 T)).1 * r, (sq_pb v r x (sq_rc 40 T)).2) else if k = 5 then ((sq_pb v r x (sq_rc 40 (sq_rc 61 T))).1 * r + (sq_hum 5 v r (sq_pb v r x (sq_rc 40 (sq_rc 61 T))).2).1, (sq_hum 5 v r (sq_pb v r x (sq_rc 40 (sq_rc 61 T))).2).2) else sq_pb v r x T
def sq_rb2 (k : Nat) (v r x : Int32) (T : sq_T) : Int32 × sq_T := ((sq_call k v r x (sq_rc 13 T)).1 ^^^ (sq_part k v r x (sq_call k v r x (sq_rc 13 T)).2).1, (sq_part k v r x (sq_call k v r x (sq_rc 13 T)).2).2)
def sq_ring (k : Nat) (v r x : Int32) (T : sq_T) : Int32 × sq_T := if k = 3 then ((sq_rb2 k v r x (sq_rc 51 T)).1 + (sq_call k v r v (sq_rb2 k v r x (sq_rc 51 T)).2).1, (sq_call k v r v (sq_rb2 k v r x (sq_rc 51 T)).2).2) else sq_rb2 k v r x T
theorem sq_rc_le {c : Int32} {T : sq_T} : (sq_rc c T).1 ≤ T.1 + 1 := by unfold sq_rc; split <;> simp
theorem sq_rc_f {c : Int32} {T : sq_T} (h : T.2.2 = true) : sq_rc c T = T := if_pos h
theorem sq_rc_2 {c : Int32} {T : sq_T} : (sq_rc c T).2.2 = T.2.2 := by
  unfold sq_rc
  by_cases h : T.2.2 = true
  · rw [if_pos h]
  · rw [if_neg h]; exact (Bool.eq_false_iff.mpr h).symm
theorem sq_hum_le {k : Nat} {v x : Int32} {T : sq_T} : (sq_hum k v x T).2.1 ≤ T.1 + 2 := by
  unfold sq_hum sq_hm0
  have a := fun c d => @sq_rc_le c (sq_rc d T)
  have b := fun c => @sq_rc_le c T
  split
  · have := a 10 20; have := b 20; show (sq_rc 10 (sq_rc 20 T)).1 ≤ _; omega
  · split
    · have := a 10 50; have := b 50; show (sq_rc 10 (sq_rc 50 T)).1 ≤ _; omega
    · have := b 10; show (sq_rc 10 T).1 ≤ _; omega
theorem sq_hum_2 {k : Nat} {v x : Int32} {T : sq_T} : (sq_hum k v x T).2.2.2 = T.2.2 := by
  unfold sq_hum sq_hm0
  split
  · show (sq_rc 10 (sq_rc 20 T)).2.2 = _; rw [sq_rc_2, sq_rc_2]
  · split
    · show (sq_rc 10 (sq_rc 50 T)).2.2 = _; rw [sq_rc_2, sq_rc_2]
    · show (sq_rc 10 T).2.2 = _; rw [sq_rc_2]
theorem sq_hum_f {k : Nat} {v x : Int32} {T : sq_T} (h : T.2.2 = true) : (sq_hum k v x T).2 = T := by
  unfold sq_hum sq_hm0
  simp only [sq_rc_f h]
  split
  · rfl
  · split <;> rfl
theorem sq_call_le {k : Nat} {v r x : Int32} {T : sq_T} : (sq_call k v r x T).2.1 ≤ T.1 + 4 := by
  unfold sq_call sq_cb
  have a := fun U => @sq_hum_le k v x (sq_rc 11 U)
  have b := fun c U => @sq_rc_le c U
  split
  · have := a (sq_rc 30 T); have := b 11 (sq_rc 30 T); have := b 30 T
    show (sq_hum k v x (sq_rc 11 (sq_rc 30 T))).2.1 ≤ _; omega
  · split
    · have := a (sq_rc 60 T); have := b 11 (sq_rc 60 T); have := b 60 T
      show (sq_hum k v x (sq_rc 11 (sq_rc 60 T))).2.1 ≤ _; omega
    · have := a T; have := b 11 T
      show (sq_hum k v x (sq_rc 11 T)).2.1 ≤ _; omega
theorem sq_call_2 {k : Nat} {v r x : Int32} {T : sq_T} : (sq_call k v r x T).2.2.2 = T.2.2 := by
  unfold sq_call sq_cb
  split
  · show (sq_hum k v x (sq_rc 11 (sq_rc 30 T))).2.2.2 = _; rw [sq_hum_2, sq_rc_2, sq_rc_2]
  · split
    · show (sq_hum k v x (sq_rc 11 (sq_rc 60 T))).2.2.2 = _; rw [sq_hum_2, sq_rc_2, sq_rc_2]
    · show (sq_hum k v x (sq_rc 11 T)).2.2.2 = _; rw [sq_hum_2, sq_rc_2]
theorem sq_call_f {k : Nat} {v r x : Int32} {T : sq_T} (h : T.2.2 = true) : (sq_call k v r x T).2 = T := by
  unfold sq_call sq_cb
  simp only [sq_rc_f h, sq_hum_f h]
  split
  · rfl
  · split <;> rfl
theorem sq_pb_le {v r x : Int32} {T : sq_T} : (sq_pb v r x T).2.1 ≤ T.1 + 1 := by
  unfold sq_pb
  have := @sq_rc_le 12 T
  split <;> exact this
theorem sq_part_le {k : Nat} {v r x : Int32} {T : sq_T} : (sq_part k v r x T).2.1 ≤ T.1 + 5 := by
  unfold sq_part
  have a := fun U => @sq_pb_le v r x U
  have b := fun c U => @sq_rc_le c U
  split
  · have := a (sq_rc 40 T); have := b 40 T
    show (sq_pb v r x (sq_rc 40 T)).2.1 ≤ _; omega
  · split
    · have := @sq_hum_le 5 v r (sq_pb v r x (sq_rc 40 (sq_rc 61 T))).2
      have := a (sq_rc 40 (sq_rc 61 T)); have := b 40 (sq_rc 61 T); have := b 61 T
      show (sq_hum 5 v r (sq_pb v r x (sq_rc 40 (sq_rc 61 T))).2).2.1 ≤ _; omega
    · have := a T; omega
/-- the class: what it has told so far -/
def sq_CT (v r : Int32) (T : sq_T) (s : am_S) : Prop := s.1 70 0 = v ∧ s.1 70 1 = r ∧ s.1 70 2 = (if T.2.2 = true then 1 else 0) ∧ s.1 70 3 = Int32.ofNat (min T.1 30) ∧ ∀ i, i < min T.1 30 → s.1 71 i = T.2.1 i
def sq_pA (k j : Nat) : Bool := k == 71 || (k == 70 && (j == 2 || j == 3))
theorem cz_began {v r c : Int32} {T : sq_T} {s : am_S} (h : sq_CT v r T s) : ∃ s', F_X9_began_70 c s = some s' ∧ sq_CT v r (sq_rc c T) s' ∧ ix_F2 sq_pA s s' := by
  obtain ⟨h0, h1, h2, h3, h4⟩ := h
  rw [F_X9_began_70, h2]
  by_cases hf : T.2.2 = true
  · rw [if_pos hf, if_neg (show ¬ (1 : Int32) = 0 by decide), sq_rc_f hf]
    exact ⟨s, rfl, ⟨h0, h1, by rw [h2, if_pos hf], h3, h4⟩, ix_F2.rf⟩
  · rw [if_neg hf, if_pos (show (0 : Int32) = 0 from rfl), h3]
    have er : sq_rc c T = (T.1 + 1, (if T.1 < 30 then upd T.2.1 T.1 c else T.2.1), false) := if_neg hf
    rw [er]
    by_cases hn : T.1 < 30
    · have em : min T.1 30 = T.1 := by omega
      rw [em] at h3 h4 ⊢
      have hi : am_in (Int32.ofNat T.1) 30 := (ix_in (by omega)).mpr hn
      have hnn : (Int32.ofNat T.1).toNatClampNeg = T.1 := ix_nat (by omega)
      refine ⟨am_sI (am_sI s 71 T.1 c) 70 3 (Int32.ofNat (T.1 + 1)), ?_, ⟨?_, ?_, ?_, ?_, fun i hi2 => ?_⟩, (ix_F2.I (by rfl)).tr (ix_F2.I (by rfl))⟩
      · rw [if_neg (by rw [ix_Lle (by omega) (by omega)]; omega), if_pos hi]
        simp only [hnn]
        rw [ix_b1, ix_sIn (by decide), h3, ix_addL, ix_b1]
      · rw [ix_sIj (by decide), ix_sIn (by decide)]; exact h0
      · rw [ix_sIj (by decide), ix_sIn (by decide)]; exact h1
      · rw [ix_sIj (by decide), ix_sIn (by decide), h2, if_neg hf]; rfl
      · rw [ix_sIs]; show Int32.ofNat (T.1 + 1) = Int32.ofNat (min (T.1 + 1) 30); congr 1; omega
      · have hi3 : i < T.1 + 1 := by have : i < min (T.1 + 1) 30 := hi2; omega
        rw [ix_sIn (by decide), ix_sI1]
        show (if i = T.1 then c else s.1 71 i) = (if T.1 < 30 then upd T.2.1 T.1 c else T.2.1) i
        rw [if_pos hn]
        by_cases hq : i = T.1
        · subst hq; rw [if_pos rfl, ix_ups]
        · rw [if_neg hq, ix_upn hq]; exact h4 i (by omega)
    · have em : min T.1 30 = 30 := by omega
      refine ⟨s, ?_, ⟨h0, h1, by rw [h2, if_neg hf]; rfl, ?_, fun i hi2 => ?_⟩, ix_F2.rf⟩
      · rw [em, if_pos (by decide)]
      · rw [h3, em]; show _ = Int32.ofNat (min (T.1 + 1) 30); congr 1; omega
      · show s.1 71 i = (if T.1 < 30 then upd T.2.1 T.1 c else T.2.1) i
        rw [if_neg hn]
        have : i < min (T.1 + 1) 30 := hi2
        exact h4 i (by omega)
theorem cz_hm0 {v r x : Int32} {T : sq_T} {s : am_S} (h : sq_CT v r T s) : ∃ s', F_X10_hums_2_70 x s = some ((sq_hm0 v x T).1, s') ∧ sq_CT v r (sq_hm0 v x T).2 s' ∧ ix_F2 sq_pA s s' := by
  obtain ⟨s1, c1, c2, c3⟩ := cz_began (c := 10) h
  refine ⟨s1, ?_, c2, c3⟩
  rw [F_X10_hums_2_70, c1, ix_b1, c2.1]; rfl
theorem cz_pb {v r x : Int32} {T : sq_T} {s : am_S} (h : sq_CT v r T s) : ∃ s', F_X10_parts_2_70 x s = some ((sq_pb v r x T).1, s') ∧ sq_CT v r (sq_pb v r x T).2 s' ∧ ix_F2 sq_pA s s' := by
  obtain ⟨s1, c1, c2, c3⟩ := cz_began (c := 12) h
  rw [F_X10_parts_2_70, c1, ix_b1, c2.1, c2.2.1]
  unfold sq_pb
  by_cases hd : v - r = 0
  · rw [if_pos hd, if_pos hd, ix_b1]
    refine ⟨_, rfl, ⟨?_, ?_, ?_, ?_, fun i hi => ?_⟩, c3.tr (ix_F2.I (by rfl))⟩
    · rw [ix_sIj (by decide)]; exact c2.1
    · rw [ix_sIj (by decide)]; exact c2.2.1
    · rw [ix_sIs]; rfl
    · rw [ix_sIj (by decide)]; exact c2.2.2.2.1
    · rw [ix_sIn (by decide)]; exact c2.2.2.2.2 i hi
  · rw [if_neg hd, if_neg hd, if_pos hd]
    exact ⟨s1, rfl, c2, c3⟩

theorem cz_h0 {v r x : Int32} {T : sq_T} {s : am_S} (h : sq_CT v r T s) : ∃ s', F_X10_hums_2_70 x s = some ((sq_hum 0 v x T).1, s') ∧ sq_CT v r (sq_hum 0 v x T).2 s' ∧ ix_F2 sq_pA s s' := by
  obtain ⟨s2, d1, d2, d3⟩ := cz_hm0 (x := x) h
  exact ⟨s2, d1, d2, d3⟩
theorem cz_h1 {v r x : Int32} {T : sq_T} {s : am_S} (h : sq_CT v r T s) : ∃ s', F_X0_hums_3_70 x s = some ((sq_hum 1 v x T).1, s') ∧ sq_CT v r (sq_hum 1 v x T).2 s' ∧ ix_F2 sq_pA s s' := by
  obtain ⟨s1, c1, c2, c3⟩ := cz_began (c := 20) h
  obtain ⟨s2, d1, d2, d3⟩ := cz_hm0 (x := x) c2
  have d1' : F_X10_hums_3_70 x s1 = _ := d1
  refine ⟨s2, ?_, d2, c3.tr d3⟩
  rw [F_X0_hums_3_70, c1, ix_b1, d1', ix_b1]; rfl
theorem cz_h2 {v r x : Int32} {T : sq_T} {s : am_S} (h : sq_CT v r T s) : ∃ s', F_X10_hums_4_70 x s = some ((sq_hum 2 v x T).1, s') ∧ sq_CT v r (sq_hum 2 v x T).2 s' ∧ ix_F2 sq_pA s s' := by
  obtain ⟨s2, d1, d2, d3⟩ := cz_hm0 (x := x) h
  exact ⟨s2, d1, d2, d3⟩
theorem cz_h3 {v r x : Int32} {T : sq_T} {s : am_S} (h : sq_CT v r T s) : ∃ s', F_X4_hums_5_70 x s = some ((sq_hum 3 v x T).1, s') ∧ sq_CT v r (sq_hum 3 v x T).2 s' ∧ ix_F2 sq_pA s s' := by
  obtain ⟨s1, c1, c2, c3⟩ := cz_began (c := 50) h
  obtain ⟨s2, d1, d2, d3⟩ := cz_hm0 (x := x - 1) c2
  have d1' : F_X10_hums_5_70 (x - 1) s1 = _ := d1
  refine ⟨s2, ?_, d2, c3.tr d3⟩
  rw [F_X4_hums_5_70, c1, ix_b1, d1', ix_b1]; rfl
theorem cz_h4 {v r x : Int32} {T : sq_T} {s : am_S} (h : sq_CT v r T s) : ∃ s', F_X10_hums_6_70 x s = some ((sq_hum 4 v x T).1, s') ∧ sq_CT v r (sq_hum 4 v x T).2 s' ∧ ix_F2 sq_pA s s' := by
  obtain ⟨s2, d1, d2, d3⟩ := cz_hm0 (x := x) h
  exact ⟨s2, d1, d2, d3⟩
theorem cz_h5 {v r x : Int32} {T : sq_T} {s : am_S} (h : sq_CT v r T s) : ∃ s', F_X10_hums_7_70 x s = some ((sq_hum 5 v x T).1, s') ∧ sq_CT v r (sq_hum 5 v x T).2 s' ∧ ix_F2 sq_pA s s' := by
  obtain ⟨s2, d1, d2, d3⟩ := cz_hm0 (x := x) h
  exact ⟨s2, d1, d2, d3⟩
theorem cz_cb0 {v r x : Int32} {T : sq_T} {s : am_S} (h : sq_CT v r T s) : ∃ s', F_X10_calls_2_70 x s = some ((sq_cb 0 v r x T).1, s') ∧ sq_CT v r (sq_cb 0 v r x T).2 s' ∧ ix_F2 sq_pA s s' := by
  obtain ⟨s1, c1, c2, c3⟩ := cz_began (c := 11) h
  obtain ⟨s2, d1, d2, d3⟩ := cz_h0 (x := x) c2
  refine ⟨s2, ?_, d2, c3.tr d3⟩
  rw [F_X10_calls_2_70, c1, ix_b1, d1, ix_b1, d2.2.1]; rfl
theorem cz_c0 {v r x : Int32} {T : sq_T} {s : am_S} (h : sq_CT v r T s) : ∃ s', F_X10_calls_2_70 x s = some ((sq_call 0 v r x T).1, s') ∧ sq_CT v r (sq_call 0 v r x T).2 s' ∧ ix_F2 sq_pA s s' := by
  exact cz_cb0 h
theorem cz_cb1 {v r x : Int32} {T : sq_T} {s : am_S} (h : sq_CT v r T s) : ∃ s', F_X10_calls_3_70 x s = some ((sq_cb 1 v r x T).1, s') ∧ sq_CT v r (sq_cb 1 v r x T).2 s' ∧ ix_F2 sq_pA s s' := by
  obtain ⟨s1, c1, c2, c3⟩ := cz_began (c := 11) h
  obtain ⟨s2, d1, d2, d3⟩ := cz_h1 (x := x) c2
  refine ⟨s2, ?_, d2, c3.tr d3⟩
  rw [F_X10_calls_3_70, c1, ix_b1, d1, ix_b1, d2.2.1]; rfl
theorem cz_c1 {v r x : Int32} {T : sq_T} {s : am_S} (h : sq_CT v r T s) : ∃ s', F_X10_calls_3_70 x s = some ((sq_call 1 v r x T).1, s') ∧ sq_CT v r (sq_call 1 v r x T).2 s' ∧ ix_F2 sq_pA s s' := by
  exact cz_cb1 h
theorem cz_cb2 {v r x : Int32} {T : sq_T} {s : am_S} (h : sq_CT v r T s) : ∃ s', F_X10_calls_4_70 x s = some ((sq_cb 2 v r x T).1, s') ∧ sq_CT v r (sq_cb 2 v r x T).2 s' ∧ ix_F2 sq_pA s s' := by
  obtain ⟨s1, c1, c2, c3⟩ := cz_began (c := 11) h
  obtain ⟨s2, d1, d2, d3⟩ := cz_h2 (x := x) c2
  refine ⟨s2, ?_, d2, c3.tr d3⟩
  rw [F_X10_calls_4_70, c1, ix_b1, d1, ix_b1, d2.2.1]; rfl
theorem cz_c2 {v r x : Int32} {T : sq_T} {s : am_S} (h : sq_CT v r T s) : ∃ s', F_X5_calls_4_70 x s = some ((sq_call 2 v r x T).1, s') ∧ sq_CT v r (sq_call 2 v r x T).2 s' ∧ ix_F2 sq_pA s s' := by
  obtain ⟨s1, c1, c2, c3⟩ := cz_began (c := 30) h
  obtain ⟨s2, d1, d2, d3⟩ := cz_cb2 (x := x) c2
  refine ⟨s2, ?_, d2, c3.tr d3⟩
  rw [F_X5_calls_4_70, c1, ix_b1, d1, ix_b1]; rfl
theorem cz_cb3 {v r x : Int32} {T : sq_T} {s : am_S} (h : sq_CT v r T s) : ∃ s', F_X10_calls_5_70 x s = some ((sq_cb 3 v r x T).1, s') ∧ sq_CT v r (sq_cb 3 v r x T).2 s' ∧ ix_F2 sq_pA s s' := by
  obtain ⟨s1, c1, c2, c3⟩ := cz_began (c := 11) h
  obtain ⟨s2, d1, d2, d3⟩ := cz_h3 (x := x) c2
  refine ⟨s2, ?_, d2, c3.tr d3⟩
  rw [F_X10_calls_5_70, c1, ix_b1, d1, ix_b1, d2.2.1]; rfl
theorem cz_c3 {v r x : Int32} {T : sq_T} {s : am_S} (h : sq_CT v r T s) : ∃ s', F_X5_calls_5_70 x s = some ((sq_call 3 v r x T).1, s') ∧ sq_CT v r (sq_call 3 v r x T).2 s' ∧ ix_F2 sq_pA s s' := by
  obtain ⟨s1, c1, c2, c3⟩ := cz_began (c := 30) h
  obtain ⟨s2, d1, d2, d3⟩ := cz_cb3 (x := x) c2
  refine ⟨s2, ?_, d2, c3.tr d3⟩
  rw [F_X5_calls_5_70, c1, ix_b1, d1, ix_b1]; rfl
theorem cz_cb4 {v r x : Int32} {T : sq_T} {s : am_S} (h : sq_CT v r T s) : ∃ s', F_X10_calls_6_70 x s = some ((sq_cb 4 v r x T).1, s') ∧ sq_CT v r (sq_cb 4 v r x T).2 s' ∧ ix_F2 sq_pA s s' := by
  obtain ⟨s1, c1, c2, c3⟩ := cz_began (c := 11) h
  obtain ⟨s2, d1, d2, d3⟩ := cz_h4 (x := x) c2
  refine ⟨s2, ?_, d2, c3.tr d3⟩
  rw [F_X10_calls_6_70, c1, ix_b1, d1, ix_b1, d2.2.1]; rfl
theorem cz_c4 {v r x : Int32} {T : sq_T} {s : am_S} (h : sq_CT v r T s) : ∃ s', F_X10_calls_6_70 x s = some ((sq_call 4 v r x T).1, s') ∧ sq_CT v r (sq_call 4 v r x T).2 s' ∧ ix_F2 sq_pA s s' := by
  exact cz_cb4 h
theorem cz_cb5 {v r x : Int32} {T : sq_T} {s : am_S} (h : sq_CT v r T s) : ∃ s', F_X10_calls_7_70 x s = some ((sq_cb 5 v r x T).1, s') ∧ sq_CT v r (sq_cb 5 v r x T).2 s' ∧ ix_F2 sq_pA s s' := by
  obtain ⟨s1, c1, c2, c3⟩ := cz_began (c := 11) h
  obtain ⟨s2, d1, d2, d3⟩ := cz_h5 (x := x) c2
  refine ⟨s2, ?_, d2, c3.tr d3⟩
  rw [F_X10_calls_7_70, c1, ix_b1, d1, ix_b1, d2.2.1]; rfl
theorem cz_c5 {v r x : Int32} {T : sq_T} {s : am_S} (h : sq_CT v r T s) : ∃ s', F_X2_calls_7_70 x s = some ((sq_call 5 v r x T).1, s') ∧ sq_CT v r (sq_call 5 v r x T).2 s' ∧ ix_F2 sq_pA s s' := by
  obtain ⟨s1, c1, c2, c3⟩ := cz_began (c := 60) h
  obtain ⟨s2, d1, d2, d3⟩ := cz_cb5 (x := x) c2
  refine ⟨s2, ?_, d2, c3.tr d3⟩
  rw [F_X2_calls_7_70, c1, ix_b1, d1, ix_b1]; rfl
theorem cz_sp0 {v r x : Int32} {T : sq_T} {s : am_S} (h : sq_CT v r T s) : ∃ s', F_X10_parts_2_70 x s = some ((sq_part 0 v r x T).1, s') ∧ sq_CT v r (sq_part 0 v r x T).2 s' ∧ ix_F2 sq_pA s s' := by
  obtain ⟨s2, d1, d2, d3⟩ := cz_pb (x := x) h
  exact ⟨s2, d1, d2, d3⟩
theorem cz_sp1 {v r x : Int32} {T : sq_T} {s : am_S} (h : sq_CT v r T s) : ∃ s', F_X10_parts_3_70 x s = some ((sq_part 1 v r x T).1, s') ∧ sq_CT v r (sq_part 1 v r x T).2 s' ∧ ix_F2 sq_pA s s' := by
  obtain ⟨s2, d1, d2, d3⟩ := cz_pb (x := x) h
  exact ⟨s2, d1, d2, d3⟩
theorem cz_sp2 {v r x : Int32} {T : sq_T} {s : am_S} (h : sq_CT v r T s) : ∃ s', F_X10_parts_4_70 x s = some ((sq_part 2 v r x T).1, s') ∧ sq_CT v r (sq_part 2 v r x T).2 s' ∧ ix_F2 sq_pA s s' := by
  obtain ⟨s2, d1, d2, d3⟩ := cz_pb (x := x) h
  exact ⟨s2, d1, d2, d3⟩
theorem cz_sp3 {v r x : Int32} {T : sq_T} {s : am_S} (h : sq_CT v r T s) : ∃ s', F_X10_parts_5_70 x s = some ((sq_part 3 v r x T).1, s') ∧ sq_CT v r (sq_part 3 v r x T).2 s' ∧ ix_F2 sq_pA s s' := by
  obtain ⟨s2, d1, d2, d3⟩ := cz_pb (x := x) h
  exact ⟨s2, d1, d2, d3⟩
theorem cz_sp4 {v r x : Int32} {T : sq_T} {s : am_S} (h : sq_CT v r T s) : ∃ s', F_X1_parts_6_70 x s = some ((sq_part 4 v r x T).1, s') ∧ sq_CT v r (sq_part 4 v r x T).2 s' ∧ ix_F2 sq_pA s s' := by
  obtain ⟨s1, c1, c2, c3⟩ := cz_began (c := 40) h
  obtain ⟨s2, d1, d2, d3⟩ := cz_pb (x := x) c2
  have d1' : F_X10_parts_6_70 x s1 = _ := d1
  refine ⟨s2, ?_, d2, c3.tr d3⟩
  rw [F_X1_parts_6_70, c1, ix_b1, d1', ix_b1, d2.2.1]; rfl
theorem cz_sp5 {v r x : Int32} {T : sq_T} {s : am_S} (h : sq_CT v r T s) : ∃ s', F_X2_parts_7_70 x s = some ((sq_part 5 v r x T).1, s') ∧ sq_CT v r (sq_part 5 v r x T).2 s' ∧ ix_F2 sq_pA s s' := by
  obtain ⟨s1, c1, c2, c3⟩ := cz_began (c := 61) h
  obtain ⟨s2, d1, d2, d3⟩ := cz_began (c := 40) c2
  obtain ⟨s3, p1, p2, p3⟩ := cz_pb (x := x) d2
  have p1' : F_X10_parts_7_70 x s2 = _ := p1
  obtain ⟨s4, q1, q2, q3⟩ := cz_h5 (x := r) p2
  refine ⟨s4, ?_, q2, ((c3.tr d3).tr p3).tr q3⟩
  rw [F_X2_parts_7_70, c1, ix_b1, F_X1_parts_7_70, d1, ix_b1, p1', ix_b1, p2.2.1, ix_b1]
  dsimp only
  rw [p2.2.1, q1, ix_b1]; rfl
theorem cz_rb0 {v r x : Int32} {T : sq_T} {s : am_S} (h : sq_CT v r T s) : ∃ s', F_X10_rings_2_70 x s = some ((sq_rb2 0 v r x T).1, s') ∧ sq_CT v r (sq_rb2 0 v r x T).2 s' ∧ ix_F2 sq_pA s s' := by
  obtain ⟨s1, c1, c2, c3⟩ := cz_began (c := 13) h
  obtain ⟨s2, d1, d2, d3⟩ := cz_c0 (x := x) c2
  obtain ⟨s3, p1, p2, p3⟩ := cz_sp0 (x := x) d2
  refine ⟨s3, ?_, p2, (c3.tr d3).tr p3⟩
  rw [F_X10_rings_2_70, c1, ix_b1, d1, ix_b1, p1, ix_b1]; rfl
theorem cz_r0 {v r x : Int32} {T : sq_T} {s : am_S} (h : sq_CT v r T s) : ∃ s', F_X10_rings_2_70 x s = some ((sq_ring 0 v r x T).1, s') ∧ sq_CT v r (sq_ring 0 v r x T).2 s' ∧ ix_F2 sq_pA s s' := by
  exact cz_rb0 h
theorem cz_rb1 {v r x : Int32} {T : sq_T} {s : am_S} (h : sq_CT v r T s) : ∃ s', F_X10_rings_3_70 x s = some ((sq_rb2 1 v r x T).1, s') ∧ sq_CT v r (sq_rb2 1 v r x T).2 s' ∧ ix_F2 sq_pA s s' := by
  obtain ⟨s1, c1, c2, c3⟩ := cz_began (c := 13) h
  obtain ⟨s2, d1, d2, d3⟩ := cz_c1 (x := x) c2
  obtain ⟨s3, p1, p2, p3⟩ := cz_sp1 (x := x) d2
  refine ⟨s3, ?_, p2, (c3.tr d3).tr p3⟩
  rw [F_X10_rings_3_70, c1, ix_b1, d1, ix_b1, p1, ix_b1]; rfl
theorem cz_r1 {v r x : Int32} {T : sq_T} {s : am_S} (h : sq_CT v r T s) : ∃ s', F_X10_rings_3_70 x s = some ((sq_ring 1 v r x T).1, s') ∧ sq_CT v r (sq_ring 1 v r x T).2 s' ∧ ix_F2 sq_pA s s' := by
  exact cz_rb1 h
theorem cz_rb2 {v r x : Int32} {T : sq_T} {s : am_S} (h : sq_CT v r T s) : ∃ s', F_X10_rings_4_70 x s = some ((sq_rb2 2 v r x T).1, s') ∧ sq_CT v r (sq_rb2 2 v r x T).2 s' ∧ ix_F2 sq_pA s s' := by
  obtain ⟨s1, c1, c2, c3⟩ := cz_began (c := 13) h
  obtain ⟨s2, d1, d2, d3⟩ := cz_c2 (x := x) c2
  obtain ⟨s3, p1, p2, p3⟩ := cz_sp2 (x := x) d2
  refine ⟨s3, ?_, p2, (c3.tr d3).tr p3⟩
  rw [F_X10_rings_4_70, c1, ix_b1, d1, ix_b1, p1, ix_b1]; rfl
theorem cz_r2 {v r x : Int32} {T : sq_T} {s : am_S} (h : sq_CT v r T s) : ∃ s', F_X10_rings_4_70 x s = some ((sq_ring 2 v r x T).1, s') ∧ sq_CT v r (sq_ring 2 v r x T).2 s' ∧ ix_F2 sq_pA s s' := by
  exact cz_rb2 h
theorem cz_rb3 {v r x : Int32} {T : sq_T} {s : am_S} (h : sq_CT v r T s) : ∃ s', F_X10_rings_5_70 x s = some ((sq_rb2 3 v r x T).1, s') ∧ sq_CT v r (sq_rb2 3 v r x T).2 s' ∧ ix_F2 sq_pA s s' := by
  obtain ⟨s1, c1, c2, c3⟩ := cz_began (c := 13) h
  obtain ⟨s2, d1, d2, d3⟩ := cz_c3 (x := x) c2
  obtain ⟨s3, p1, p2, p3⟩ := cz_sp3 (x := x) d2
  refine ⟨s3, ?_, p2, (c3.tr d3).tr p3⟩
  rw [F_X10_rings_5_70, c1, ix_b1, d1, ix_b1, p1, ix_b1]; rfl
theorem cz_r3 {v r x : Int32} {T : sq_T} {s : am_S} (h : sq_CT v r T s) : ∃ s', F_X4_rings_5_70 x s = some ((sq_ring 3 v r x T).1, s') ∧ sq_CT v r (sq_ring 3 v r x T).2 s' ∧ ix_F2 sq_pA s s' := by
  obtain ⟨s1, c1, c2, c3⟩ := cz_began (c := 51) h
  obtain ⟨s2, d1, d2, d3⟩ := cz_rb3 (x := x) c2
  obtain ⟨s3, p1, p2, p3⟩ := cz_c3 (x := v) d2
  refine ⟨s3, ?_, p2, (c3.tr d3).tr p3⟩
  rw [F_X4_rings_5_70, c1, ix_b1, d1, ix_b1, d2.1, p1, ix_b1]; rfl
theorem cz_rb4 {v r x : Int32} {T : sq_T} {s : am_S} (h : sq_CT v r T s) : ∃ s', F_X10_rings_6_70 x s = some ((sq_rb2 4 v r x T).1, s') ∧ sq_CT v r (sq_rb2 4 v r x T).2 s' ∧ ix_F2 sq_pA s s' := by
  obtain ⟨s1, c1, c2, c3⟩ := cz_began (c := 13) h
  obtain ⟨s2, d1, d2, d3⟩ := cz_c4 (x := x) c2
  obtain ⟨s3, p1, p2, p3⟩ := cz_sp4 (x := x) d2
  refine ⟨s3, ?_, p2, (c3.tr d3).tr p3⟩
  rw [F_X10_rings_6_70, c1, ix_b1, d1, ix_b1, p1, ix_b1]; rfl
theorem cz_r4 {v r x : Int32} {T : sq_T} {s : am_S} (h : sq_CT v r T s) : ∃ s', F_X10_rings_6_70 x s = some ((sq_ring 4 v r x T).1, s') ∧ sq_CT v r (sq_ring 4 v r x T).2 s' ∧ ix_F2 sq_pA s s' := by
  exact cz_rb4 h
theorem cz_rb5 {v r x : Int32} {T : sq_T} {s : am_S} (h : sq_CT v r T s) : ∃ s', F_X10_rings_7_70 x s = some ((sq_rb2 5 v r x T).1, s') ∧ sq_CT v r (sq_rb2 5 v r x T).2 s' ∧ ix_F2 sq_pA s s' := by
  obtain ⟨s1, c1, c2, c3⟩ := cz_began (c := 13) h
  obtain ⟨s2, d1, d2, d3⟩ := cz_c5 (x := x) c2
  obtain ⟨s3, p1, p2, p3⟩ := cz_sp5 (x := x) d2
  refine ⟨s3, ?_, p2, (c3.tr d3).tr p3⟩
  rw [F_X10_rings_7_70, c1, ix_b1, d1, ix_b1, p1, ix_b1]; rfl
theorem cz_r5 {v r x : Int32} {T : sq_T} {s : am_S} (h : sq_CT v r T s) : ∃ s', F_X10_rings_7_70 x s = some ((sq_ring 5 v r x T).1, s') ∧ sq_CT v r (sq_ring 5 v r x T).2 s' ∧ ix_F2 sq_pA s s' := by
  exact cz_rb5 h
/-! the model: what it has told so far -/
def sq_MT (k : Nat) (v r : Int32) (T : sq_T) (s : am_S) : Prop := s.1 82 37 = v ∧ s.1 82 38 = r ∧ s.1 82 39 = Int32.ofNat k ∧ s.1 82 40 = (if T.2.2 = true then 1 else 0) ∧ s.1 82 36 = Int32.ofNat T.1 ∧ ∀ i, i < min T.1 30 → s.1 99 i = T.2.1 i
def sq_pB (k j : Nat) : Bool := k == 99 || (k == 82 && (j == 36 || j == 40))
theorem mz_runs {k : Nat} {v r c : Int32} {T : sq_T} {s : am_S} (h : sq_MT k v r T s) (hT : T.1 ≤ 900) : ∃ s', F_X12_runs_82 c s = some s' ∧ sq_MT k v r (sq_rc c T) s' ∧ ix_F2 sq_pB s s' := by
  obtain ⟨h0, h1, h2, h3, h4, h5⟩ := h
  rw [F_X12_runs_82, h3]
  by_cases hf : T.2.2 = true
  · rw [if_pos hf, if_neg (show ¬ (1 : Int32) = 0 by decide), sq_rc_f hf]
    exact ⟨s, rfl, ⟨h0, h1, h2, by rw [h3, if_pos hf], h4, h5⟩, ix_F2.rf⟩
  · rw [if_neg hf, if_pos (show (0 : Int32) = 0 from rfl), h4]
    have er : sq_rc c T = (T.1 + 1, (if T.1 < 30 then upd T.2.1 T.1 c else T.2.1), false) := if_neg hf
    rw [er]
    by_cases hn : T.1 < 30
    · have hi : am_in (Int32.ofNat T.1) 30 := (ix_in (by omega)).mpr hn
      have hnn : (Int32.ofNat T.1).toNatClampNeg = T.1 := ix_nat (by omega)
      refine ⟨am_sI (am_sI s 99 T.1 c) 82 36 (Int32.ofNat (T.1 + 1)), ?_, ⟨?_, ?_, ?_, ?_, ?_, fun i hi2 => ?_⟩, (ix_F2.I (by rfl)).tr (ix_F2.I (by rfl))⟩
      · rw [if_neg (by rw [ix_Lle (by omega) (by omega)]; omega), if_pos hi]
        simp only [hnn]
        rw [ix_b1, ix_sIn (by decide), h4, ix_addL, ix_b1]
      · rw [ix_sIj (by decide), ix_sIn (by decide)]; exact h0
      · rw [ix_sIj (by decide), ix_sIn (by decide)]; exact h1
      · rw [ix_sIj (by decide), ix_sIn (by decide)]; exact h2
      · rw [ix_sIj (by decide), ix_sIn (by decide), h3, if_neg hf]; rfl
      · rw [ix_sIs]
      · have hi3 : i < T.1 + 1 := by have : i < min (T.1 + 1) 30 := hi2; omega
        rw [ix_sIn (by decide), ix_sI1]
        show (if i = T.1 then c else s.1 99 i) = (if T.1 < 30 then upd T.2.1 T.1 c else T.2.1) i
        rw [if_pos hn]
        by_cases hq : i = T.1
        · subst hq; rw [if_pos rfl, ix_ups]
        · rw [if_neg hq, ix_upn hq]; exact h5 i (by omega)
    · refine ⟨am_sI s 82 36 (Int32.ofNat (T.1 + 1)), ?_, ⟨?_, ?_, ?_, ?_, ?_, fun i hi2 => ?_⟩, ix_F2.I (by rfl)⟩
      · rw [if_pos (by rw [ix_Lle (by omega) (by omega)]; omega), ix_addL, ix_b1]
      · rw [ix_sIj (by decide)]; exact h0
      · rw [ix_sIj (by decide)]; exact h1
      · rw [ix_sIj (by decide)]; exact h2
      · rw [ix_sIj (by decide), h3, if_neg hf]; rfl
      · rw [ix_sIs]
      · rw [ix_sIn (by decide)]
        show s.1 99 i = (if T.1 < 30 then upd T.2.1 T.1 c else T.2.1) i
        rw [if_neg hn]
        have : i < min (T.1 + 1) 30 := hi2
        exact h5 i (by omega)
theorem mz_pb {k : Nat} {v r x : Int32} {T : sq_T} {s : am_S} (h : sq_MT k v r T s) (hT : T.1 ≤ 900) : ∃ s', F_X12_plainParts_82 x s = some ((sq_pb v r x T).1, s') ∧ sq_MT k v r (sq_pb v r x T).2 s' ∧ ix_F2 sq_pB s s' := by
  obtain ⟨s1, c1, c2, c3⟩ := mz_runs (c := 12) h hT
  rw [F_X12_plainParts_82, c1, ix_b1, c2.1, c2.2.1]
  unfold sq_pb
  by_cases hd : v - r = 0
  · have hvr : v = r := by
      have := congrArg (· + r) hd
      simpa using this
    rw [if_pos hvr, if_pos hd, ix_b1]
    refine ⟨_, rfl, ⟨?_, ?_, ?_, ?_, ?_, fun i hi => ?_⟩, c3.tr (ix_F2.I (by rfl))⟩
    · rw [ix_sIj (by decide)]; exact c2.1
    · rw [ix_sIj (by decide)]; exact c2.2.1
    · rw [ix_sIj (by decide)]; exact c2.2.2.1
    · rw [ix_sIs]; rfl
    · rw [ix_sIj (by decide)]; exact c2.2.2.2.2.1
    · rw [ix_sIn (by decide)]; exact c2.2.2.2.2.2 i hi
  · have hvr : ¬ v = r := fun z => hd (by rw [z]; simp)
    rw [if_neg hvr, if_neg hd, if_pos hd]
    exact ⟨s1, rfl, c2, c3⟩
theorem mz_h0 {v r x : Int32} {T : sq_T} {s : am_S} (h : sq_MT 0 v r T s) (hT : T.1 ≤ 890) : ∃ s', F_X12_hums_82 x s = some ((sq_hum 0 v x T).1, s') ∧ sq_MT 0 v r (sq_hum 0 v x T).2 s' ∧ ix_F2 sq_pB s s' := by
  obtain ⟨s2, d1, d2, d3⟩ := mz_runs (c := 10) h (by omega)
  refine ⟨s2, ?_, d2, d3⟩
  rw [F_X12_hums_82, h.2.2.1, if_neg (show ¬ Int32.ofNat 0 = (1 : Int32) by decide), F_X12_hums_82_b14, h.2.2.1, if_neg (show ¬ Int32.ofNat 0 = (3 : Int32) by decide), F_X12_hums_82_b28, d1, ix_b1, d2.2.2.1, if_neg (show ¬ Int32.ofNat 0 = (3 : Int32) by decide), F_X12_hums_82_b49, d2.2.2.1, if_neg (show ¬ Int32.ofNat 0 = (1 : Int32) by decide), d2.1]
  rfl
theorem mz_h1 {v r x : Int32} {T : sq_T} {s : am_S} (h : sq_MT 1 v r T s) (hT : T.1 ≤ 890) : ∃ s', F_X12_hums_82 x s = some ((sq_hum 1 v x T).1, s') ∧ sq_MT 1 v r (sq_hum 1 v x T).2 s' ∧ ix_F2 sq_pB s s' := by
  obtain ⟨s1, c1, c2, c3⟩ := mz_runs (c := 20) h (by omega)
  have l1 := @sq_rc_le 20 T
  obtain ⟨s2, d1, d2, d3⟩ := mz_runs (c := 10) c2 (by omega)
  refine ⟨s2, ?_, d2, c3.tr d3⟩
  rw [F_X12_hums_82, h.2.2.1, if_pos (show Int32.ofNat 1 = (1 : Int32) from rfl), c1, ix_b1, F_X12_hums_82_b14, c2.2.2.1, if_neg (show ¬ Int32.ofNat 1 = (3 : Int32) by decide), F_X12_hums_82_b28, d1, ix_b1, d2.2.2.1, if_neg (show ¬ Int32.ofNat 1 = (3 : Int32) by decide), F_X12_hums_82_b49, d2.2.2.1, if_pos (show Int32.ofNat 1 = (1 : Int32) from rfl), d2.1]
  rfl
theorem mz_h2 {v r x : Int32} {T : sq_T} {s : am_S} (h : sq_MT 2 v r T s) (hT : T.1 ≤ 890) : ∃ s', F_X12_hums_82 x s = some ((sq_hum 2 v x T).1, s') ∧ sq_MT 2 v r (sq_hum 2 v x T).2 s' ∧ ix_F2 sq_pB s s' := by
  obtain ⟨s2, d1, d2, d3⟩ := mz_runs (c := 10) h (by omega)
  refine ⟨s2, ?_, d2, d3⟩
  rw [F_X12_hums_82, h.2.2.1, if_neg (show ¬ Int32.ofNat 2 = (1 : Int32) by decide), F_X12_hums_82_b14, h.2.2.1, if_neg (show ¬ Int32.ofNat 2 = (3 : Int32) by decide), F_X12_hums_82_b28, d1, ix_b1, d2.2.2.1, if_neg (show ¬ Int32.ofNat 2 = (3 : Int32) by decide), F_X12_hums_82_b49, d2.2.2.1, if_neg (show ¬ Int32.ofNat 2 = (1 : Int32) by decide), d2.1]
  rfl
theorem mz_h3 {v r x : Int32} {T : sq_T} {s : am_S} (h : sq_MT 3 v r T s) (hT : T.1 ≤ 890) : ∃ s', F_X12_hums_82 x s = some ((sq_hum 3 v x T).1, s') ∧ sq_MT 3 v r (sq_hum 3 v x T).2 s' ∧ ix_F2 sq_pB s s' := by
  obtain ⟨s1, c1, c2, c3⟩ := mz_runs (c := 50) h (by omega)
  have l1 := @sq_rc_le 50 T
  obtain ⟨s2, d1, d2, d3⟩ := mz_runs (c := 10) c2 (by omega)
  refine ⟨s2, ?_, d2, c3.tr d3⟩
  rw [F_X12_hums_82, h.2.2.1, if_neg (show ¬ Int32.ofNat 3 = (1 : Int32) by decide), F_X12_hums_82_b14, h.2.2.1, if_pos (show Int32.ofNat 3 = (3 : Int32) from rfl), c1, ix_b1, F_X12_hums_82_b28, d1, ix_b1, d2.2.2.1, if_pos (show Int32.ofNat 3 = (3 : Int32) from rfl), F_X12_hums_82_b49, d2.2.2.1, if_neg (show ¬ Int32.ofNat 3 = (1 : Int32) by decide), d2.1]
  rfl
theorem mz_h4 {v r x : Int32} {T : sq_T} {s : am_S} (h : sq_MT 4 v r T s) (hT : T.1 ≤ 890) : ∃ s', F_X12_hums_82 x s = some ((sq_hum 4 v x T).1, s') ∧ sq_MT 4 v r (sq_hum 4 v x T).2 s' ∧ ix_F2 sq_pB s s' := by
  obtain ⟨s2, d1, d2, d3⟩ := mz_runs (c := 10) h (by omega)
  refine ⟨s2, ?_, d2, d3⟩
  rw [F_X12_hums_82, h.2.2.1, if_neg (show ¬ Int32.ofNat 4 = (1 : Int32) by decide), F_X12_hums_82_b14, h.2.2.1, if_neg (show ¬ Int32.ofNat 4 = (3 : Int32) by decide), F_X12_hums_82_b28, d1, ix_b1, d2.2.2.1, if_neg (show ¬ Int32.ofNat 4 = (3 : Int32) by decide), F_X12_hums_82_b49, d2.2.2.1, if_neg (show ¬ Int32.ofNat 4 = (1 : Int32) by decide), d2.1]
  rfl
theorem mz_h5 {v r x : Int32} {T : sq_T} {s : am_S} (h : sq_MT 5 v r T s) (hT : T.1 ≤ 890) : ∃ s', F_X12_hums_82 x s = some ((sq_hum 5 v x T).1, s') ∧ sq_MT 5 v r (sq_hum 5 v x T).2 s' ∧ ix_F2 sq_pB s s' := by
  obtain ⟨s2, d1, d2, d3⟩ := mz_runs (c := 10) h (by omega)
  refine ⟨s2, ?_, d2, d3⟩
  rw [F_X12_hums_82, h.2.2.1, if_neg (show ¬ Int32.ofNat 5 = (1 : Int32) by decide), F_X12_hums_82_b14, h.2.2.1, if_neg (show ¬ Int32.ofNat 5 = (3 : Int32) by decide), F_X12_hums_82_b28, d1, ix_b1, d2.2.2.1, if_neg (show ¬ Int32.ofNat 5 = (3 : Int32) by decide), F_X12_hums_82_b49, d2.2.2.1, if_neg (show ¬ Int32.ofNat 5 = (1 : Int32) by decide), d2.1]
  rfl
theorem mz_c0 {v r x : Int32} {T : sq_T} {s : am_S} (h : sq_MT 0 v r T s) (hT : T.1 ≤ 880) : ∃ s', F_X12_calls_82 x s = some ((sq_call 0 v r x T).1, s') ∧ sq_MT 0 v r (sq_call 0 v r x T).2 s' ∧ ix_F2 sq_pB s s' := by
  obtain ⟨s2, d1, d2, d3⟩ := mz_runs (c := 11) h (by omega)
  have l2 := @sq_rc_le 11 T
  obtain ⟨s3, e1, e2, e3⟩ := mz_h0 (x := x) d2 (by omega)
  refine ⟨s3, ?_, e2, d3.tr e3⟩
  rw [F_X12_calls_82, h.2.2.1, if_neg (show ¬ Int32.ofNat 0 = (2 : Int32) by decide), if_neg (show ¬ Int32.ofNat 0 = (3 : Int32) by decide), F_X12_calls_82_b21, if_pos (show (0 : Int32) = 0 from rfl), F_X12_calls_82_b32, h.2.2.1, if_neg (show ¬ Int32.ofNat 0 = (5 : Int32) by decide), F_X12_calls_82_b46, d1, ix_b1, e1, ix_b1, if_pos (show (0 : Int32) = 0 from rfl), e2.2.2.1, if_neg (show ¬ Int32.ofNat 0 = (5 : Int32) by decide), e2.2.1]
  rfl
theorem mz_c1 {v r x : Int32} {T : sq_T} {s : am_S} (h : sq_MT 1 v r T s) (hT : T.1 ≤ 880) : ∃ s', F_X12_calls_82 x s = some ((sq_call 1 v r x T).1, s') ∧ sq_MT 1 v r (sq_call 1 v r x T).2 s' ∧ ix_F2 sq_pB s s' := by
  obtain ⟨s2, d1, d2, d3⟩ := mz_runs (c := 11) h (by omega)
  have l2 := @sq_rc_le 11 T
  obtain ⟨s3, e1, e2, e3⟩ := mz_h1 (x := x) d2 (by omega)
  refine ⟨s3, ?_, e2, d3.tr e3⟩
  rw [F_X12_calls_82, h.2.2.1, if_neg (show ¬ Int32.ofNat 1 = (2 : Int32) by decide), if_neg (show ¬ Int32.ofNat 1 = (3 : Int32) by decide), F_X12_calls_82_b21, if_pos (show (0 : Int32) = 0 from rfl), F_X12_calls_82_b32, h.2.2.1, if_neg (show ¬ Int32.ofNat 1 = (5 : Int32) by decide), F_X12_calls_82_b46, d1, ix_b1, e1, ix_b1, if_pos (show (0 : Int32) = 0 from rfl), e2.2.2.1, if_neg (show ¬ Int32.ofNat 1 = (5 : Int32) by decide), e2.2.1]
  rfl
theorem mz_c2 {v r x : Int32} {T : sq_T} {s : am_S} (h : sq_MT 2 v r T s) (hT : T.1 ≤ 880) : ∃ s', F_X12_calls_82 x s = some ((sq_call 2 v r x T).1, s') ∧ sq_MT 2 v r (sq_call 2 v r x T).2 s' ∧ ix_F2 sq_pB s s' := by
  obtain ⟨s1, c1, c2, c3⟩ := mz_runs (c := 30) h (by omega)
  have l1 := @sq_rc_le 30 T
  obtain ⟨s2, d1, d2, d3⟩ := mz_runs (c := 11) c2 (by omega)
  have l2 := @sq_rc_le 11 (sq_rc 30 T)
  obtain ⟨s3, e1, e2, e3⟩ := mz_h2 (x := x) d2 (by omega)
  refine ⟨s3, ?_, e2, (c3.tr d3).tr e3⟩
  rw [F_X12_calls_82, h.2.2.1, if_pos (show Int32.ofNat 2 = (2 : Int32) from rfl), F_X12_calls_82_b16, F_X12_calls_82_b21, if_neg (show ¬ (1 : Int32) = 0 by decide), c1, ix_b1, F_X12_calls_82_b32, c2.2.2.1, if_neg (show ¬ Int32.ofNat 2 = (5 : Int32) by decide), F_X12_calls_82_b46, d1, ix_b1, e1, ix_b1, if_neg (show ¬ (1 : Int32) = 0 by decide), e2.2.1]
  rfl
theorem mz_c3 {v r x : Int32} {T : sq_T} {s : am_S} (h : sq_MT 3 v r T s) (hT : T.1 ≤ 880) : ∃ s', F_X12_calls_82 x s = some ((sq_call 3 v r x T).1, s') ∧ sq_MT 3 v r (sq_call 3 v r x T).2 s' ∧ ix_F2 sq_pB s s' := by
  obtain ⟨s1, c1, c2, c3⟩ := mz_runs (c := 30) h (by omega)
  have l1 := @sq_rc_le 30 T
  obtain ⟨s2, d1, d2, d3⟩ := mz_runs (c := 11) c2 (by omega)
  have l2 := @sq_rc_le 11 (sq_rc 30 T)
  obtain ⟨s3, e1, e2, e3⟩ := mz_h3 (x := x) d2 (by omega)
  refine ⟨s3, ?_, e2, (c3.tr d3).tr e3⟩
  rw [F_X12_calls_82, h.2.2.1, if_neg (show ¬ Int32.ofNat 3 = (2 : Int32) by decide), if_pos (show Int32.ofNat 3 = (3 : Int32) from rfl), F_X12_calls_82_b16, F_X12_calls_82_b21, if_neg (show ¬ (1 : Int32) = 0 by decide), c1, ix_b1, F_X12_calls_82_b32, c2.2.2.1, if_neg (show ¬ Int32.ofNat 3 = (5 : Int32) by decide), F_X12_calls_82_b46, d1, ix_b1, e1, ix_b1, if_neg (show ¬ (1 : Int32) = 0 by decide), e2.2.1]
  rfl
theorem mz_c4 {v r x : Int32} {T : sq_T} {s : am_S} (h : sq_MT 4 v r T s) (hT : T.1 ≤ 880) : ∃ s', F_X12_calls_82 x s = some ((sq_call 4 v r x T).1, s') ∧ sq_MT 4 v r (sq_call 4 v r x T).2 s' ∧ ix_F2 sq_pB s s' := by
  obtain ⟨s2, d1, d2, d3⟩ := mz_runs (c := 11) h (by omega)
  have l2 := @sq_rc_le 11 T
  obtain ⟨s3, e1, e2, e3⟩ := mz_h4 (x := x) d2 (by omega)
  refine ⟨s3, ?_, e2, d3.tr e3⟩
  rw [F_X12_calls_82, h.2.2.1, if_neg (show ¬ Int32.ofNat 4 = (2 : Int32) by decide), if_neg (show ¬ Int32.ofNat 4 = (3 : Int32) by decide), F_X12_calls_82_b21, if_pos (show (0 : Int32) = 0 from rfl), F_X12_calls_82_b32, h.2.2.1, if_neg (show ¬ Int32.ofNat 4 = (5 : Int32) by decide), F_X12_calls_82_b46, d1, ix_b1, e1, ix_b1, if_pos (show (0 : Int32) = 0 from rfl), e2.2.2.1, if_neg (show ¬ Int32.ofNat 4 = (5 : Int32) by decide), e2.2.1]
  rfl
theorem mz_c5 {v r x : Int32} {T : sq_T} {s : am_S} (h : sq_MT 5 v r T s) (hT : T.1 ≤ 880) : ∃ s', F_X12_calls_82 x s = some ((sq_call 5 v r x T).1, s') ∧ sq_MT 5 v r (sq_call 5 v r x T).2 s' ∧ ix_F2 sq_pB s s' := by
  obtain ⟨s1, c1, c2, c3⟩ := mz_runs (c := 60) h (by omega)
  have l1 := @sq_rc_le 60 T
  obtain ⟨s2, d1, d2, d3⟩ := mz_runs (c := 11) c2 (by omega)
  have l2 := @sq_rc_le 11 (sq_rc 60 T)
  obtain ⟨s3, e1, e2, e3⟩ := mz_h5 (x := x) d2 (by omega)
  refine ⟨s3, ?_, e2, (c3.tr d3).tr e3⟩
  rw [F_X12_calls_82, h.2.2.1, if_neg (show ¬ Int32.ofNat 5 = (2 : Int32) by decide), if_neg (show ¬ Int32.ofNat 5 = (3 : Int32) by decide), F_X12_calls_82_b21, if_pos (show (0 : Int32) = 0 from rfl), F_X12_calls_82_b32, h.2.2.1, if_pos (show Int32.ofNat 5 = (5 : Int32) from rfl), c1, ix_b1, F_X12_calls_82_b46, d1, ix_b1, e1, ix_b1, if_pos (show (0 : Int32) = 0 from rfl), e2.2.2.1, if_pos (show Int32.ofNat 5 = (5 : Int32) from rfl), e2.2.1]
  rfl
theorem mz_sp0 {v r x : Int32} {T : sq_T} {s : am_S} (h : sq_MT 0 v r T s) (hT : T.1 ≤ 870) : ∃ y s', F_X12_parts_82 x s = some (y, s') ∧ ((sq_part 0 v r x T).2.2.2 = false → y = (sq_part 0 v r x T).1) ∧ sq_MT 0 v r (sq_part 0 v r x T).2 s' ∧ ix_F2 sq_pB s s' := by
  obtain ⟨s2, d1, d2, d3⟩ := mz_pb (x := x) h (by omega)
  refine ⟨_, s2, ?_, fun _ => rfl, d2, d3⟩
  rw [F_X12_parts_82, h.2.2.1, if_neg (show ¬ Int32.ofNat 0 = (4 : Int32) by decide), if_neg (show ¬ Int32.ofNat 0 = (5 : Int32) by decide), d1, ix_b1]
  rfl
theorem mz_sp1 {v r x : Int32} {T : sq_T} {s : am_S} (h : sq_MT 1 v r T s) (hT : T.1 ≤ 870) : ∃ y s', F_X12_parts_82 x s = some (y, s') ∧ ((sq_part 1 v r x T).2.2.2 = false → y = (sq_part 1 v r x T).1) ∧ sq_MT 1 v r (sq_part 1 v r x T).2 s' ∧ ix_F2 sq_pB s s' := by
  obtain ⟨s2, d1, d2, d3⟩ := mz_pb (x := x) h (by omega)
  refine ⟨_, s2, ?_, fun _ => rfl, d2, d3⟩
  rw [F_X12_parts_82, h.2.2.1, if_neg (show ¬ Int32.ofNat 1 = (4 : Int32) by decide), if_neg (show ¬ Int32.ofNat 1 = (5 : Int32) by decide), d1, ix_b1]
  rfl
theorem mz_sp2 {v r x : Int32} {T : sq_T} {s : am_S} (h : sq_MT 2 v r T s) (hT : T.1 ≤ 870) : ∃ y s', F_X12_parts_82 x s = some (y, s') ∧ ((sq_part 2 v r x T).2.2.2 = false → y = (sq_part 2 v r x T).1) ∧ sq_MT 2 v r (sq_part 2 v r x T).2 s' ∧ ix_F2 sq_pB s s' := by
  obtain ⟨s2, d1, d2, d3⟩ := mz_pb (x := x) h (by omega)
  refine ⟨_, s2, ?_, fun _ => rfl, d2, d3⟩
  rw [F_X12_parts_82, h.2.2.1, if_neg (show ¬ Int32.ofNat 2 = (4 : Int32) by decide), if_neg (show ¬ Int32.ofNat 2 = (5 : Int32) by decide), d1, ix_b1]
  rfl
theorem mz_sp3 {v r x : Int32} {T : sq_T} {s : am_S} (h : sq_MT 3 v r T s) (hT : T.1 ≤ 870) : ∃ y s', F_X12_parts_82 x s = some (y, s') ∧ ((sq_part 3 v r x T).2.2.2 = false → y = (sq_part 3 v r x T).1) ∧ sq_MT 3 v r (sq_part 3 v r x T).2 s' ∧ ix_F2 sq_pB s s' := by
  obtain ⟨s2, d1, d2, d3⟩ := mz_pb (x := x) h (by omega)
  refine ⟨_, s2, ?_, fun _ => rfl, d2, d3⟩
  rw [F_X12_parts_82, h.2.2.1, if_neg (show ¬ Int32.ofNat 3 = (4 : Int32) by decide), if_neg (show ¬ Int32.ofNat 3 = (5 : Int32) by decide), d1, ix_b1]
  rfl
theorem mz_sp4 {v r x : Int32} {T : sq_T} {s : am_S} (h : sq_MT 4 v r T s) (hT : T.1 ≤ 870) : ∃ y s', F_X12_parts_82 x s = some (y, s') ∧ ((sq_part 4 v r x T).2.2.2 = false → y = (sq_part 4 v r x T).1) ∧ sq_MT 4 v r (sq_part 4 v r x T).2 s' ∧ ix_F2 sq_pB s s' := by
  obtain ⟨s1, c1, c2, c3⟩ := mz_runs (c := 40) h (by omega)
  have l1 := @sq_rc_le 40 T
  obtain ⟨s2, d1, d2, d3⟩ := mz_pb (x := x) c2 (by omega)
  refine ⟨_, s2, ?_, fun _ => rfl, d2, c3.tr d3⟩
  rw [F_X12_parts_82, h.2.2.1, if_pos (show Int32.ofNat 4 = (4 : Int32) from rfl), c1, ix_b1, d1, ix_b1, d2.2.1]
  rfl
theorem mz_sp5 {v r x : Int32} {T : sq_T} {s : am_S} (h : sq_MT 5 v r T s) (hT : T.1 ≤ 870) : ∃ y s', F_X12_parts_82 x s = some (y, s') ∧ ((sq_part 5 v r x T).2.2.2 = false → y = (sq_part 5 v r x T).1) ∧ sq_MT 5 v r (sq_part 5 v r x T).2 s' ∧ ix_F2 sq_pB s s' := by
  obtain ⟨s1, c1, c2, c3⟩ := mz_runs (c := 61) h (by omega)
  have l1 := @sq_rc_le 61 T
  obtain ⟨s2, d1, d2, d3⟩ := mz_runs (c := 40) c2 (by omega)
  have l2 := @sq_rc_le 40 (sq_rc 61 T)
  obtain ⟨s3, p1, p2, p3⟩ := mz_pb (x := x) d2 (by omega)
  have l3 := @sq_pb_le v r x (sq_rc 40 (sq_rc 61 T))
  by_cases hf : (sq_pb v r x (sq_rc 40 (sq_rc 61 T))).2.2.2 = true
  · have e0 : (sq_part 5 v r x T).2 = (sq_pb v r x (sq_rc 40 (sq_rc 61 T))).2 := sq_hum_f hf
    refine ⟨0, s3, ?_, fun h => ?_, by rw [e0]; exact p2, (c3.tr d3).tr p3⟩
    · rw [F_X12_parts_82, h.2.2.1, if_neg (show ¬ Int32.ofNat 5 = (4 : Int32) by decide), if_pos (show Int32.ofNat 5 = (5 : Int32) from rfl), c1, ix_b1, d1, ix_b1, p1, ix_b1, p2.2.2.2.1, if_pos hf, if_neg (show ¬ (1 : Int32) = 0 by decide)]
    · rw [e0, hf] at h; cases h
  · obtain ⟨s4, q1, q2, q3⟩ := mz_h5 (x := r) p2 (by omega)
    refine ⟨_, s4, ?_, fun _ => rfl, q2, ((c3.tr d3).tr p3).tr q3⟩
    rw [F_X12_parts_82, h.2.2.1, if_neg (show ¬ Int32.ofNat 5 = (4 : Int32) by decide), if_pos (show Int32.ofNat 5 = (5 : Int32) from rfl), c1, ix_b1, d1, ix_b1, p1, ix_b1, p2.2.2.2.1, if_neg hf, if_pos (show (0 : Int32) = 0 from rfl), p2.2.1, q1, ix_b1]
    rfl
theorem mz_r0 {v r x : Int32} {T : sq_T} {s : am_S} (h : sq_MT 0 v r T s) (hT : T.1 ≤ 850) : ∃ y s', F_X12_rings_82 x s = some (y, s') ∧ ((sq_ring 0 v r x T).2.2.2 = false → y = (sq_ring 0 v r x T).1) ∧ sq_MT 0 v r (sq_ring 0 v r x T).2 s' ∧ ix_F2 sq_pB s s' := by
  obtain ⟨s1, c1, c2, c3⟩ := mz_runs (c := 13) h (by omega)
  have l1 := @sq_rc_le 13 T
  obtain ⟨s2, d1, d2, d3⟩ := mz_c0 (x := x) c2 (by omega)
  have l2 := @sq_call_le 0 v r x (sq_rc 13 T)
  obtain ⟨y, s3, p1, py, p2, p3⟩ := mz_sp0 (x := x) d2 (by omega)
  refine ⟨(sq_call 0 v r x (sq_rc 13 T)).1 ^^^ y, s3, ?_, fun hf => ?_, p2, (c3.tr d3).tr p3⟩
  · rw [F_X12_rings_82, h.2.2.1, if_neg (show ¬ Int32.ofNat 0 = (3 : Int32) by decide), F_X12_rings_82_b14, c1, ix_b1, d1, ix_b1, p1, ix_b1, p2.2.2.1, if_neg (show ¬ Int32.ofNat 0 = (3 : Int32) by decide)]
  · have hf' : (sq_part 0 v r x (sq_call 0 v r x (sq_rc 13 T)).2).2.2.2 = false := hf
    rw [py hf']; rfl
theorem mz_r1 {v r x : Int32} {T : sq_T} {s : am_S} (h : sq_MT 1 v r T s) (hT : T.1 ≤ 850) : ∃ y s', F_X12_rings_82 x s = some (y, s') ∧ ((sq_ring 1 v r x T).2.2.2 = false → y = (sq_ring 1 v r x T).1) ∧ sq_MT 1 v r (sq_ring 1 v r x T).2 s' ∧ ix_F2 sq_pB s s' := by
  obtain ⟨s1, c1, c2, c3⟩ := mz_runs (c := 13) h (by omega)
  have l1 := @sq_rc_le 13 T
  obtain ⟨s2, d1, d2, d3⟩ := mz_c1 (x := x) c2 (by omega)
  have l2 := @sq_call_le 1 v r x (sq_rc 13 T)
  obtain ⟨y, s3, p1, py, p2, p3⟩ := mz_sp1 (x := x) d2 (by omega)
  refine ⟨(sq_call 1 v r x (sq_rc 13 T)).1 ^^^ y, s3, ?_, fun hf => ?_, p2, (c3.tr d3).tr p3⟩
  · rw [F_X12_rings_82, h.2.2.1, if_neg (show ¬ Int32.ofNat 1 = (3 : Int32) by decide), F_X12_rings_82_b14, c1, ix_b1, d1, ix_b1, p1, ix_b1, p2.2.2.1, if_neg (show ¬ Int32.ofNat 1 = (3 : Int32) by decide)]
  · have hf' : (sq_part 1 v r x (sq_call 1 v r x (sq_rc 13 T)).2).2.2.2 = false := hf
    rw [py hf']; rfl
theorem mz_r2 {v r x : Int32} {T : sq_T} {s : am_S} (h : sq_MT 2 v r T s) (hT : T.1 ≤ 850) : ∃ y s', F_X12_rings_82 x s = some (y, s') ∧ ((sq_ring 2 v r x T).2.2.2 = false → y = (sq_ring 2 v r x T).1) ∧ sq_MT 2 v r (sq_ring 2 v r x T).2 s' ∧ ix_F2 sq_pB s s' := by
  obtain ⟨s1, c1, c2, c3⟩ := mz_runs (c := 13) h (by omega)
  have l1 := @sq_rc_le 13 T
  obtain ⟨s2, d1, d2, d3⟩ := mz_c2 (x := x) c2 (by omega)
  have l2 := @sq_call_le 2 v r x (sq_rc 13 T)
  obtain ⟨y, s3, p1, py, p2, p3⟩ := mz_sp2 (x := x) d2 (by omega)
  refine ⟨(sq_call 2 v r x (sq_rc 13 T)).1 ^^^ y, s3, ?_, fun hf => ?_, p2, (c3.tr d3).tr p3⟩
  · rw [F_X12_rings_82, h.2.2.1, if_neg (show ¬ Int32.ofNat 2 = (3 : Int32) by decide), F_X12_rings_82_b14, c1, ix_b1, d1, ix_b1, p1, ix_b1, p2.2.2.1, if_neg (show ¬ Int32.ofNat 2 = (3 : Int32) by decide)]
  · have hf' : (sq_part 2 v r x (sq_call 2 v r x (sq_rc 13 T)).2).2.2.2 = false := hf
    rw [py hf']; rfl
theorem mz_r3 {v r x : Int32} {T : sq_T} {s : am_S} (h : sq_MT 3 v r T s) (hT : T.1 ≤ 850) : ∃ y s', F_X12_rings_82 x s = some (y, s') ∧ ((sq_ring 3 v r x T).2.2.2 = false → y = (sq_ring 3 v r x T).1) ∧ sq_MT 3 v r (sq_ring 3 v r x T).2 s' ∧ ix_F2 sq_pB s s' := by
  obtain ⟨s0, b1, b2, b3⟩ := mz_runs (c := 51) h (by omega)
  have l0 := @sq_rc_le 51 T
  obtain ⟨s1, c1, c2, c3⟩ := mz_runs (c := 13) b2 (by omega)
  have l1 := @sq_rc_le 13 (sq_rc 51 T)
  obtain ⟨s2, d1, d2, d3⟩ := mz_c3 (x := x) c2 (by omega)
  have l2 := @sq_call_le 3 v r x (sq_rc 13 (sq_rc 51 T))
  obtain ⟨y, s3, p1, py, p2, p3⟩ := mz_sp3 (x := x) d2 (by omega)
  have l3 := @sq_part_le 3 v r x (sq_call 3 v r x (sq_rc 13 (sq_rc 51 T))).2
  by_cases hf : (sq_part 3 v r x (sq_call 3 v r x (sq_rc 13 (sq_rc 51 T))).2).2.2.2 = true
  · have e0 : (sq_ring 3 v r x T).2 = (sq_part 3 v r x (sq_call 3 v r x (sq_rc 13 (sq_rc 51 T))).2).2 := sq_call_f hf
    refine ⟨(sq_call 3 v r x (sq_rc 13 (sq_rc 51 T))).1 ^^^ y, s3, ?_, fun h => ?_, by rw [e0]; exact p2, ((b3.tr c3).tr d3).tr p3⟩
    · rw [F_X12_rings_82, h.2.2.1, if_pos (show Int32.ofNat 3 = (3 : Int32) from rfl), b1, ix_b1, F_X12_rings_82_b14, c1, ix_b1, d1, ix_b1, p1, ix_b1, p2.2.2.1, if_pos (show Int32.ofNat 3 = (3 : Int32) from rfl), p2.2.2.2.1, if_pos hf, if_neg (show ¬ (1 : Int32) = 0 by decide)]
    · rw [e0, hf] at h; cases h
  · obtain ⟨s4, q1, q2, q3⟩ := mz_c3 (x := v) p2 (by omega)
    refine ⟨((sq_call 3 v r x (sq_rc 13 (sq_rc 51 T))).1 ^^^ y) + (sq_call 3 v r v (sq_part 3 v r x (sq_call 3 v r x (sq_rc 13 (sq_rc 51 T))).2).2).1, s4, ?_, fun _ => ?_, q2, (((b3.tr c3).tr d3).tr p3).tr q3⟩
    · rw [F_X12_rings_82, h.2.2.1, if_pos (show Int32.ofNat 3 = (3 : Int32) from rfl), b1, ix_b1, F_X12_rings_82_b14, c1, ix_b1, d1, ix_b1, p1, ix_b1, p2.2.2.1, if_pos (show Int32.ofNat 3 = (3 : Int32) from rfl), p2.2.2.2.1, if_neg hf, if_pos (show (0 : Int32) = 0 from rfl), p2.1, q1, ix_b1]
    · rw [py (Bool.eq_false_iff.mpr hf)]; rfl
theorem mz_r4 {v r x : Int32} {T : sq_T} {s : am_S} (h : sq_MT 4 v r T s) (hT : T.1 ≤ 850) : ∃ y s', F_X12_rings_82 x s = some (y, s') ∧ ((sq_ring 4 v r x T).2.2.2 = false → y = (sq_ring 4 v r x T).1) ∧ sq_MT 4 v r (sq_ring 4 v r x T).2 s' ∧ ix_F2 sq_pB s s' := by
  obtain ⟨s1, c1, c2, c3⟩ := mz_runs (c := 13) h (by omega)
  have l1 := @sq_rc_le 13 T
  obtain ⟨s2, d1, d2, d3⟩ := mz_c4 (x := x) c2 (by omega)
  have l2 := @sq_call_le 4 v r x (sq_rc 13 T)
  obtain ⟨y, s3, p1, py, p2, p3⟩ := mz_sp4 (x := x) d2 (by omega)
  refine ⟨(sq_call 4 v r x (sq_rc 13 T)).1 ^^^ y, s3, ?_, fun hf => ?_, p2, (c3.tr d3).tr p3⟩
  · rw [F_X12_rings_82, h.2.2.1, if_neg (show ¬ Int32.ofNat 4 = (3 : Int32) by decide), F_X12_rings_82_b14, c1, ix_b1, d1, ix_b1, p1, ix_b1, p2.2.2.1, if_neg (show ¬ Int32.ofNat 4 = (3 : Int32) by decide)]
  · have hf' : (sq_part 4 v r x (sq_call 4 v r x (sq_rc 13 T)).2).2.2.2 = false := hf
    rw [py hf']; rfl
theorem mz_r5 {v r x : Int32} {T : sq_T} {s : am_S} (h : sq_MT 5 v r T s) (hT : T.1 ≤ 850) : ∃ y s', F_X12_rings_82 x s = some (y, s') ∧ ((sq_ring 5 v r x T).2.2.2 = false → y = (sq_ring 5 v r x T).1) ∧ sq_MT 5 v r (sq_ring 5 v r x T).2 s' ∧ ix_F2 sq_pB s s' := by
  obtain ⟨s1, c1, c2, c3⟩ := mz_runs (c := 13) h (by omega)
  have l1 := @sq_rc_le 13 T
  obtain ⟨s2, d1, d2, d3⟩ := mz_c5 (x := x) c2 (by omega)
  have l2 := @sq_call_le 5 v r x (sq_rc 13 T)
  obtain ⟨y, s3, p1, py, p2, p3⟩ := mz_sp5 (x := x) d2 (by omega)
  refine ⟨(sq_call 5 v r x (sq_rc 13 T)).1 ^^^ y, s3, ?_, fun hf => ?_, p2, (c3.tr d3).tr p3⟩
  · rw [F_X12_rings_82, h.2.2.1, if_neg (show ¬ Int32.ofNat 5 = (3 : Int32) by decide), F_X12_rings_82_b14, c1, ix_b1, d1, ix_b1, p1, ix_b1, p2.2.2.1, if_neg (show ¬ Int32.ofNat 5 = (3 : Int32) by decide)]
  · have hf' : (sq_part 5 v r x (sq_call 5 v r x (sq_rc 13 T)).2).2.2.2 = false := hf
    rw [py hf']; rfl
