/-! LAYER 2: act, trace, many agree (written by wip/whole/l2/gen69.py) -/
theorem sq_ring_le {k : Nat} {v r x : Int32} {T : sq_T} : (sq_ring k v r x T).2.1 ≤ T.1 + 20 := by
  unfold sq_ring sq_rb2
  have a := fun U => @sq_part_le k v r x U
  have b := fun y U => @sq_call_le k v r y U
  have c := fun c U => @sq_rc_le c U
  split
  · have := b v (sq_part k v r x (sq_call k v r x (sq_rc 13 (sq_rc 51 T))).2).2
    have := a (sq_call k v r x (sq_rc 13 (sq_rc 51 T))).2
    have := b x (sq_rc 13 (sq_rc 51 T))
    have := c 13 (sq_rc 51 T)
    have := c 51 T
    show (sq_call k v r v (sq_part k v r x (sq_call k v r x (sq_rc 13 (sq_rc 51 T))).2).2).2.1 ≤ _
    omega
  · have := a (sq_call k v r x (sq_rc 13 T)).2
    have := b x (sq_rc 13 T)
    have := c 13 T
    show (sq_part k v r x (sq_call k v r x (sq_rc 13 T)).2).2.1 ≤ _
    omega
theorem cz_b161 {v r y : Int32} {T : sq_T} {s : am_S} (h : sq_CT v r T s) : F_X11_act_0_b161 y s = some (if T.2.2 = true then -15 else y, s) := by
  rw [F_X11_act_0_b161, h.2.2.1]
  by_cases hf : T.2.2 = true
  · rw [if_pos hf, if_pos hf, if_neg (show ¬ (1 : Int32) = 0 by decide)]
  · rw [if_neg hf, if_neg hf, if_pos (show (0 : Int32) = 0 from rfl)]
theorem mz_b109 {k : Nat} {v r x3 y z : Int32} {T : sq_T} {s : am_S} (h : sq_MT k v r T s) (hy : T.2.2 = false → y = z) : F_X12_act_82_b109 x3 y s = some (if T.2.2 = true then -15 else z, s) := by
  rw [F_X12_act_82_b109, h.2.2.2.1]
  by_cases hf : T.2.2 = true
  · rw [if_pos hf, if_pos hf, if_neg (show ¬ (1 : Int32) = 0 by decide)]
  · rw [if_neg hf, if_neg hf, if_pos (show (0 : Int32) = 0 from rfl), hy (Bool.eq_false_iff.mpr hf)]

theorem cz_act0 {k : Nat} {v r x : Int32} {T : sq_T} {s : am_S} (hk : k ≤ 5) (h : sq_CT v r T s) : ∃ s', (if k = 0 then ((F_X10_hums_2_70 x s).bind fun q => (F_X11_act_0_b161 q.1 q.2)) else (if k = 1 then ((F_X0_hums_3_70 x s).bind fun q => (F_X11_act_0_b161 q.1 q.2)) else (if k = 2 then ((F_X10_hums_4_70 x s).bind fun q => (F_X11_act_0_b161 q.1 q.2)) else (if k = 3 then ((F_X4_hums_5_70 x s).bind fun q => (F_X11_act_0_b161 q.1 q.2)) else (if k = 4 then ((F_X10_hums_6_70 x s).bind fun q => (F_X11_act_0_b161 q.1 q.2)) else ((F_X10_hums_7_70 x s).bind fun q => (F_X11_act_0_b161 q.1 q.2))))))) = some (if (sq_hum k v x T).2.2.2 = true then -15 else (sq_hum k v x T).1, s') ∧ sq_CT v r (sq_hum k v x T).2 s' ∧ ix_F2 sq_pA s s' := by
  rcases sq_six hk with rfl | rfl | rfl | rfl | rfl | rfl
  · obtain ⟨s', c1, c2, c3⟩ := cz_h0 (x := x) h
    refine ⟨s', ?_, c2, c3⟩
    rw [if_pos (show (0 : Nat) = 0 from rfl), c1, ix_b1, cz_b161 c2]
  · obtain ⟨s', c1, c2, c3⟩ := cz_h1 (x := x) h
    refine ⟨s', ?_, c2, c3⟩
    rw [if_neg (show ¬ (1 : Nat) = 0 by decide), if_pos (show (1 : Nat) = 1 from rfl), c1, ix_b1, cz_b161 c2]
  · obtain ⟨s', c1, c2, c3⟩ := cz_h2 (x := x) h
    refine ⟨s', ?_, c2, c3⟩
    rw [if_neg (show ¬ (2 : Nat) = 0 by decide), if_neg (show ¬ (2 : Nat) = 1 by decide), if_pos (show (2 : Nat) = 2 from rfl), c1, ix_b1, cz_b161 c2]
  · obtain ⟨s', c1, c2, c3⟩ := cz_h3 (x := x) h
    refine ⟨s', ?_, c2, c3⟩
    rw [if_neg (show ¬ (3 : Nat) = 0 by decide), if_neg (show ¬ (3 : Nat) = 1 by decide), if_neg (show ¬ (3 : Nat) = 2 by decide), if_pos (show (3 : Nat) = 3 from rfl), c1, ix_b1, cz_b161 c2]
  · obtain ⟨s', c1, c2, c3⟩ := cz_h4 (x := x) h
    refine ⟨s', ?_, c2, c3⟩
    rw [if_neg (show ¬ (4 : Nat) = 0 by decide), if_neg (show ¬ (4 : Nat) = 1 by decide), if_neg (show ¬ (4 : Nat) = 2 by decide), if_neg (show ¬ (4 : Nat) = 3 by decide), if_pos (show (4 : Nat) = 4 from rfl), c1, ix_b1, cz_b161 c2]
  · obtain ⟨s', c1, c2, c3⟩ := cz_h5 (x := x) h
    refine ⟨s', ?_, c2, c3⟩
    rw [if_neg (show ¬ (5 : Nat) = 0 by decide), if_neg (show ¬ (5 : Nat) = 1 by decide), if_neg (show ¬ (5 : Nat) = 2 by decide), if_neg (show ¬ (5 : Nat) = 3 by decide), if_neg (show ¬ (5 : Nat) = 4 by decide), c1, ix_b1, cz_b161 c2]
theorem mz_act0 {k : Nat} {v r x : Int32} {T : sq_T} {s : am_S} (hk : k ≤ 5) (h : sq_MT k v r T s) (hT : T.1 ≤ 800) : ∃ s', ((F_X12_hums_82 x s).bind fun q => (F_X12_act_82_b109 x q.1 q.2)) = some (if (sq_hum k v x T).2.2.2 = true then -15 else (sq_hum k v x T).1, s') ∧ sq_MT k v r (sq_hum k v x T).2 s' ∧ ix_F2 sq_pB s s' := by
  rcases sq_six hk with rfl | rfl | rfl | rfl | rfl | rfl
  · obtain ⟨s', c1, c2, c3⟩ := mz_h0 (x := x) h (by omega)
    refine ⟨s', ?_, c2, c3⟩
    rw [c1, ix_b1, mz_b109 c2 (fun _ => rfl)]
  · obtain ⟨s', c1, c2, c3⟩ := mz_h1 (x := x) h (by omega)
    refine ⟨s', ?_, c2, c3⟩
    rw [c1, ix_b1, mz_b109 c2 (fun _ => rfl)]
  · obtain ⟨s', c1, c2, c3⟩ := mz_h2 (x := x) h (by omega)
    refine ⟨s', ?_, c2, c3⟩
    rw [c1, ix_b1, mz_b109 c2 (fun _ => rfl)]
  · obtain ⟨s', c1, c2, c3⟩ := mz_h3 (x := x) h (by omega)
    refine ⟨s', ?_, c2, c3⟩
    rw [c1, ix_b1, mz_b109 c2 (fun _ => rfl)]
  · obtain ⟨s', c1, c2, c3⟩ := mz_h4 (x := x) h (by omega)
    refine ⟨s', ?_, c2, c3⟩
    rw [c1, ix_b1, mz_b109 c2 (fun _ => rfl)]
  · obtain ⟨s', c1, c2, c3⟩ := mz_h5 (x := x) h (by omega)
    refine ⟨s', ?_, c2, c3⟩
    rw [c1, ix_b1, mz_b109 c2 (fun _ => rfl)]
theorem cz_act1 {k : Nat} {v r x : Int32} {T : sq_T} {s : am_S} (hk : k ≤ 5) (h : sq_CT v r T s) : ∃ s', (if k = 0 then ((F_X10_calls_2_70 x s).bind fun q => (F_X11_act_0_b161 q.1 q.2)) else (if k = 1 then ((F_X10_calls_3_70 x s).bind fun q => (F_X11_act_0_b161 q.1 q.2)) else (if k = 2 then ((F_X5_calls_4_70 x s).bind fun q => (F_X11_act_0_b161 q.1 q.2)) else (if k = 3 then ((F_X5_calls_5_70 x s).bind fun q => (F_X11_act_0_b161 q.1 q.2)) else (if k = 4 then ((F_X10_calls_6_70 x s).bind fun q => (F_X11_act_0_b161 q.1 q.2)) else ((F_X2_calls_7_70 x s).bind fun q => (F_X11_act_0_b161 q.1 q.2))))))) = some (if (sq_call k v r x T).2.2.2 = true then -15 else (sq_call k v r x T).1, s') ∧ sq_CT v r (sq_call k v r x T).2 s' ∧ ix_F2 sq_pA s s' := by
  rcases sq_six hk with rfl | rfl | rfl | rfl | rfl | rfl
  · obtain ⟨s', c1, c2, c3⟩ := cz_c0 (x := x) h
    refine ⟨s', ?_, c2, c3⟩
    rw [if_pos (show (0 : Nat) = 0 from rfl), c1, ix_b1, cz_b161 c2]
  · obtain ⟨s', c1, c2, c3⟩ := cz_c1 (x := x) h
    refine ⟨s', ?_, c2, c3⟩
    rw [if_neg (show ¬ (1 : Nat) = 0 by decide), if_pos (show (1 : Nat) = 1 from rfl), c1, ix_b1, cz_b161 c2]
  · obtain ⟨s', c1, c2, c3⟩ := cz_c2 (x := x) h
    refine ⟨s', ?_, c2, c3⟩
    rw [if_neg (show ¬ (2 : Nat) = 0 by decide), if_neg (show ¬ (2 : Nat) = 1 by decide), if_pos (show (2 : Nat) = 2 from rfl), c1, ix_b1, cz_b161 c2]
  · obtain ⟨s', c1, c2, c3⟩ := cz_c3 (x := x) h
    refine ⟨s', ?_, c2, c3⟩
    rw [if_neg (show ¬ (3 : Nat) = 0 by decide), if_neg (show ¬ (3 : Nat) = 1 by decide), if_neg (show ¬ (3 : Nat) = 2 by decide), if_pos (show (3 : Nat) = 3 from rfl), c1, ix_b1, cz_b161 c2]
  · obtain ⟨s', c1, c2, c3⟩ := cz_c4 (x := x) h
    refine ⟨s', ?_, c2, c3⟩
    rw [if_neg (show ¬ (4 : Nat) = 0 by decide), if_neg (show ¬ (4 : Nat) = 1 by decide), if_neg (show ¬ (4 : Nat) = 2 by decide), if_neg (show ¬ (4 : Nat) = 3 by decide), if_pos (show (4 : Nat) = 4 from rfl), c1, ix_b1, cz_b161 c2]
  · obtain ⟨s', c1, c2, c3⟩ := cz_c5 (x := x) h
    refine ⟨s', ?_, c2, c3⟩
    rw [if_neg (show ¬ (5 : Nat) = 0 by decide), if_neg (show ¬ (5 : Nat) = 1 by decide), if_neg (show ¬ (5 : Nat) = 2 by decide), if_neg (show ¬ (5 : Nat) = 3 by decide), if_neg (show ¬ (5 : Nat) = 4 by decide), c1, ix_b1, cz_b161 c2]
theorem mz_act1 {k : Nat} {v r x : Int32} {T : sq_T} {s : am_S} (hk : k ≤ 5) (h : sq_MT k v r T s) (hT : T.1 ≤ 800) : ∃ s', ((F_X12_calls_82 x s).bind fun q => (F_X12_act_82_b109 x q.1 q.2)) = some (if (sq_call k v r x T).2.2.2 = true then -15 else (sq_call k v r x T).1, s') ∧ sq_MT k v r (sq_call k v r x T).2 s' ∧ ix_F2 sq_pB s s' := by
  rcases sq_six hk with rfl | rfl | rfl | rfl | rfl | rfl
  · obtain ⟨s', c1, c2, c3⟩ := mz_c0 (x := x) h (by omega)
    refine ⟨s', ?_, c2, c3⟩
    rw [c1, ix_b1, mz_b109 c2 (fun _ => rfl)]
  · obtain ⟨s', c1, c2, c3⟩ := mz_c1 (x := x) h (by omega)
    refine ⟨s', ?_, c2, c3⟩
    rw [c1, ix_b1, mz_b109 c2 (fun _ => rfl)]
  · obtain ⟨s', c1, c2, c3⟩ := mz_c2 (x := x) h (by omega)
    refine ⟨s', ?_, c2, c3⟩
    rw [c1, ix_b1, mz_b109 c2 (fun _ => rfl)]
  · obtain ⟨s', c1, c2, c3⟩ := mz_c3 (x := x) h (by omega)
    refine ⟨s', ?_, c2, c3⟩
    rw [c1, ix_b1, mz_b109 c2 (fun _ => rfl)]
  · obtain ⟨s', c1, c2, c3⟩ := mz_c4 (x := x) h (by omega)
    refine ⟨s', ?_, c2, c3⟩
    rw [c1, ix_b1, mz_b109 c2 (fun _ => rfl)]
  · obtain ⟨s', c1, c2, c3⟩ := mz_c5 (x := x) h (by omega)
    refine ⟨s', ?_, c2, c3⟩
    rw [c1, ix_b1, mz_b109 c2 (fun _ => rfl)]
theorem cz_act2 {k : Nat} {v r x : Int32} {T : sq_T} {s : am_S} (hk : k ≤ 5) (h : sq_CT v r T s) : ∃ s', (if k = 0 then ((F_X10_parts_2_70 x s).bind fun q => (F_X11_act_0_b161 q.1 q.2)) else (if k = 1 then ((F_X10_parts_3_70 x s).bind fun q => (F_X11_act_0_b161 q.1 q.2)) else (if k = 2 then ((F_X10_parts_4_70 x s).bind fun q => (F_X11_act_0_b161 q.1 q.2)) else (if k = 3 then ((F_X10_parts_5_70 x s).bind fun q => (F_X11_act_0_b161 q.1 q.2)) else (if k = 4 then ((F_X1_parts_6_70 x s).bind fun q => (F_X11_act_0_b161 q.1 q.2)) else ((F_X2_parts_7_70 x s).bind fun q => (F_X11_act_0_b161 q.1 q.2))))))) = some (if (sq_part k v r x T).2.2.2 = true then -15 else (sq_part k v r x T).1, s') ∧ sq_CT v r (sq_part k v r x T).2 s' ∧ ix_F2 sq_pA s s' := by
  rcases sq_six hk with rfl | rfl | rfl | rfl | rfl | rfl
  · obtain ⟨s', c1, c2, c3⟩ := cz_sp0 (x := x) h
    refine ⟨s', ?_, c2, c3⟩
    rw [if_pos (show (0 : Nat) = 0 from rfl), c1, ix_b1, cz_b161 c2]
  · obtain ⟨s', c1, c2, c3⟩ := cz_sp1 (x := x) h
    refine ⟨s', ?_, c2, c3⟩
    rw [if_neg (show ¬ (1 : Nat) = 0 by decide), if_pos (show (1 : Nat) = 1 from rfl), c1, ix_b1, cz_b161 c2]
  · obtain ⟨s', c1, c2, c3⟩ := cz_sp2 (x := x) h
    refine ⟨s', ?_, c2, c3⟩
    rw [if_neg (show ¬ (2 : Nat) = 0 by decide), if_neg (show ¬ (2 : Nat) = 1 by decide), if_pos (show (2 : Nat) = 2 from rfl), c1, ix_b1, cz_b161 c2]
  · obtain ⟨s', c1, c2, c3⟩ := cz_sp3 (x := x) h
    refine ⟨s', ?_, c2, c3⟩
    rw [if_neg (show ¬ (3 : Nat) = 0 by decide), if_neg (show ¬ (3 : Nat) = 1 by decide), if_neg (show ¬ (3 : Nat) = 2 by decide), if_pos (show (3 : Nat) = 3 from rfl), c1, ix_b1, cz_b161 c2]
  · obtain ⟨s', c1, c2, c3⟩ := cz_sp4 (x := x) h
    refine ⟨s', ?_, c2, c3⟩
    rw [if_neg (show ¬ (4 : Nat) = 0 by decide), if_neg (show ¬ (4 : Nat) = 1 by decide), if_neg (show ¬ (4 : Nat) = 2 by decide), if_neg (show ¬ (4 : Nat) = 3 by decide), if_pos (show (4 : Nat) = 4 from rfl), c1, ix_b1, cz_b161 c2]
  · obtain ⟨s', c1, c2, c3⟩ := cz_sp5 (x := x) h
    refine ⟨s', ?_, c2, c3⟩
    rw [if_neg (show ¬ (5 : Nat) = 0 by decide), if_neg (show ¬ (5 : Nat) = 1 by decide), if_neg (show ¬ (5 : Nat) = 2 by decide), if_neg (show ¬ (5 : Nat) = 3 by decide), if_neg (show ¬ (5 : Nat) = 4 by decide), c1, ix_b1, cz_b161 c2]
theorem mz_act2 {k : Nat} {v r x : Int32} {T : sq_T} {s : am_S} (hk : k ≤ 5) (h : sq_MT k v r T s) (hT : T.1 ≤ 800) : ∃ s', ((F_X12_parts_82 x s).bind fun q => (F_X12_act_82_b109 x q.1 q.2)) = some (if (sq_part k v r x T).2.2.2 = true then -15 else (sq_part k v r x T).1, s') ∧ sq_MT k v r (sq_part k v r x T).2 s' ∧ ix_F2 sq_pB s s' := by
  rcases sq_six hk with rfl | rfl | rfl | rfl | rfl | rfl
  · obtain ⟨y, s', c1, cy, c2, c3⟩ := mz_sp0 (x := x) h (by omega)
    refine ⟨s', ?_, c2, c3⟩
    rw [c1, ix_b1, mz_b109 c2 cy]
  · obtain ⟨y, s', c1, cy, c2, c3⟩ := mz_sp1 (x := x) h (by omega)
    refine ⟨s', ?_, c2, c3⟩
    rw [c1, ix_b1, mz_b109 c2 cy]
  · obtain ⟨y, s', c1, cy, c2, c3⟩ := mz_sp2 (x := x) h (by omega)
    refine ⟨s', ?_, c2, c3⟩
    rw [c1, ix_b1, mz_b109 c2 cy]
  · obtain ⟨y, s', c1, cy, c2, c3⟩ := mz_sp3 (x := x) h (by omega)
    refine ⟨s', ?_, c2, c3⟩
    rw [c1, ix_b1, mz_b109 c2 cy]
  · obtain ⟨y, s', c1, cy, c2, c3⟩ := mz_sp4 (x := x) h (by omega)
    refine ⟨s', ?_, c2, c3⟩
    rw [c1, ix_b1, mz_b109 c2 cy]
  · obtain ⟨y, s', c1, cy, c2, c3⟩ := mz_sp5 (x := x) h (by omega)
    refine ⟨s', ?_, c2, c3⟩
    rw [c1, ix_b1, mz_b109 c2 cy]
theorem cz_act3 {k : Nat} {v r x : Int32} {T : sq_T} {s : am_S} (hk : k ≤ 5) (h : sq_CT v r T s) : ∃ s', (if k = 0 then ((F_X10_rings_2_70 x s).bind fun q => (F_X11_act_0_b161 q.1 q.2)) else (if k = 1 then ((F_X10_rings_3_70 x s).bind fun q => (F_X11_act_0_b161 q.1 q.2)) else (if k = 2 then ((F_X10_rings_4_70 x s).bind fun q => (F_X11_act_0_b161 q.1 q.2)) else (if k = 3 then ((F_X4_rings_5_70 x s).bind fun q => (F_X11_act_0_b161 q.1 q.2)) else (if k = 4 then ((F_X10_rings_6_70 x s).bind fun q => (F_X11_act_0_b161 q.1 q.2)) else ((F_X10_rings_7_70 x s).bind fun q => (F_X11_act_0_b161 q.1 q.2))))))) = some (if (sq_ring k v r x T).2.2.2 = true then -15 else (sq_ring k v r x T).1, s') ∧ sq_CT v r (sq_ring k v r x T).2 s' ∧ ix_F2 sq_pA s s' := by
  rcases sq_six hk with rfl | rfl | rfl | rfl | rfl | rfl
  · obtain ⟨s', c1, c2, c3⟩ := cz_r0 (x := x) h
    refine ⟨s', ?_, c2, c3⟩
    rw [if_pos (show (0 : Nat) = 0 from rfl), c1, ix_b1, cz_b161 c2]
  · obtain ⟨s', c1, c2, c3⟩ := cz_r1 (x := x) h
    refine ⟨s', ?_, c2, c3⟩
    rw [if_neg (show ¬ (1 : Nat) = 0 by decide), if_pos (show (1 : Nat) = 1 from rfl), c1, ix_b1, cz_b161 c2]
  · obtain ⟨s', c1, c2, c3⟩ := cz_r2 (x := x) h
    refine ⟨s', ?_, c2, c3⟩
    rw [if_neg (show ¬ (2 : Nat) = 0 by decide), if_neg (show ¬ (2 : Nat) = 1 by decide), if_pos (show (2 : Nat) = 2 from rfl), c1, ix_b1, cz_b161 c2]
  · obtain ⟨s', c1, c2, c3⟩ := cz_r3 (x := x) h
    refine ⟨s', ?_, c2, c3⟩
    rw [if_neg (show ¬ (3 : Nat) = 0 by decide), if_neg (show ¬ (3 : Nat) = 1 by decide), if_neg (show ¬ (3 : Nat) = 2 by decide), if_pos (show (3 : Nat) = 3 from rfl), c1, ix_b1, cz_b161 c2]
  · obtain ⟨s', c1, c2, c3⟩ := cz_r4 (x := x) h
    refine ⟨s', ?_, c2, c3⟩
    rw [if_neg (show ¬ (4 : Nat) = 0 by decide), if_neg (show ¬ (4 : Nat) = 1 by decide), if_neg (show ¬ (4 : Nat) = 2 by decide), if_neg (show ¬ (4 : Nat) = 3 by decide), if_pos (show (4 : Nat) = 4 from rfl), c1, ix_b1, cz_b161 c2]
  · obtain ⟨s', c1, c2, c3⟩ := cz_r5 (x := x) h
    refine ⟨s', ?_, c2, c3⟩
    rw [if_neg (show ¬ (5 : Nat) = 0 by decide), if_neg (show ¬ (5 : Nat) = 1 by decide), if_neg (show ¬ (5 : Nat) = 2 by decide), if_neg (show ¬ (5 : Nat) = 3 by decide), if_neg (show ¬ (5 : Nat) = 4 by decide), c1, ix_b1, cz_b161 c2]
theorem mz_act3 {k : Nat} {v r x : Int32} {T : sq_T} {s : am_S} (hk : k ≤ 5) (h : sq_MT k v r T s) (hT : T.1 ≤ 800) : ∃ s', ((F_X12_rings_82 x s).bind fun q => (F_X12_act_82_b109 x q.1 q.2)) = some (if (sq_ring k v r x T).2.2.2 = true then -15 else (sq_ring k v r x T).1, s') ∧ sq_MT k v r (sq_ring k v r x T).2 s' ∧ ix_F2 sq_pB s s' := by
  rcases sq_six hk with rfl | rfl | rfl | rfl | rfl | rfl
  · obtain ⟨y, s', c1, cy, c2, c3⟩ := mz_r0 (x := x) h (by omega)
    refine ⟨s', ?_, c2, c3⟩
    rw [c1, ix_b1, mz_b109 c2 cy]
  · obtain ⟨y, s', c1, cy, c2, c3⟩ := mz_r1 (x := x) h (by omega)
    refine ⟨s', ?_, c2, c3⟩
    rw [c1, ix_b1, mz_b109 c2 cy]
  · obtain ⟨y, s', c1, cy, c2, c3⟩ := mz_r2 (x := x) h (by omega)
    refine ⟨s', ?_, c2, c3⟩
    rw [c1, ix_b1, mz_b109 c2 cy]
  · obtain ⟨y, s', c1, cy, c2, c3⟩ := mz_r3 (x := x) h (by omega)
    refine ⟨s', ?_, c2, c3⟩
    rw [c1, ix_b1, mz_b109 c2 cy]
  · obtain ⟨y, s', c1, cy, c2, c3⟩ := mz_r4 (x := x) h (by omega)
    refine ⟨s', ?_, c2, c3⟩
    rw [c1, ix_b1, mz_b109 c2 cy]
  · obtain ⟨y, s', c1, cy, c2, c3⟩ := mz_r5 (x := x) h (by omega)
    refine ⟨s', ?_, c2, c3⟩
    rw [c1, ix_b1, mz_b109 c2 cy]
def sq_pSG (k j : Nat) : Bool := sq_pS k j || k == 71 || k == 99 || (k == 70 && j == 3) || (k == 82 && j == 36)
theorem jz_keepG {s t : am_S} (j : jz_J s) (f : ix_F2 sq_pSG s t) (js : jz_S t) (jG : jz_G t) : jz_J t := by
  obtain ⟨-, jK, jT, jR, jH, jL, -, jN⟩ := j
  refine ⟨js, jz_K_fr (fun k q h => f.1 k q ?_) jK, jz_T_fr (fun k q h => f.1 k q ?_) jT, jz_R_fr (fun k q h => f.1 k q ?_) jR, jz_H_fr (fun k q h => f.1 k q ?_) f.2 jH, jz_L_fr (fun k q h => f.1 k q ?_) jL, jG, jz_N_fr (fun k q h => f.1 k q ?_) jN⟩
  · rcases h with h | rfl | ⟨rfl, rfl⟩ | ⟨rfl, rfl⟩
    · unfold sq_pSG; rw [sq_pS_a h.1 h.2]; simp; omega
    all_goals rfl
  · rcases h with rfl | rfl | ⟨rfl, rfl⟩ | ⟨rfl, rfl⟩
    all_goals rfl
  · rcases h with h | rfl | ⟨rfl, rfl⟩ | ⟨rfl, rfl⟩
    · unfold sq_pSG; rw [sq_pS_b h.1 h.2]; simp; omega
    all_goals rfl
  · rcases h with rfl | rfl | rfl | rfl | rfl
    all_goals rfl
  · rcases h with rfl | rfl | rfl | rfl | rfl | rfl
    all_goals rfl
  · rcases h with rfl | rfl
    all_goals rfl
theorem jz_sing {s s1 s2 : am_S} {n : Nat} (j : jz_J s) (f1 : ix_F2 (fun k _ => k == 70 || k == 71) s s1) (f2 : ix_F2 (fun k j => k == 99 || (k == 82 && (36 ≤ j && j < 41))) s1 s2) (hn : n ≤ 1000) (h1 : s1.1 70 3 = Int32.ofNat (min n 30)) (h2 : s2.1 82 36 = Int32.ofNat n) (h3 : ∀ i, i < min n 30 → s1.1 71 i = s2.1 99 i) : jz_J s2 := by
  have g : ∀ k, k < 70 ∨ (71 < k ∧ k < 82) ∨ k = 83 → s2.1 k = s.1 k := fun k hk => funext fun q => by
    rw [f2.1 k q (by simp; omega), f1.1 k q (by simp; omega)]
  refine jz_keepG j ((f1.wd (fun k j hk => by unfold sq_pSG sq_pS at hk; simp at hk ⊢; omega)).tr (f2.wd (fun k j hk => by unfold sq_pSG sq_pS at hk; simp at hk ⊢; omega))) ⟨by rw [g 83 (by omega)]; exact j.1.1, by rw [g 83 (by omega)]; exact sq_R_fr (fun k h1 h2 => g k (by omega)) j.1.2⟩ ⟨n, hn, h2, by rw [f2.1 70 3 rfl]; exact h1, fun i hi => by rw [f2.1 71 i rfl]; exact h3 i hi⟩
def sq_T0 : sq_T := (0, fun _ => 0, false)
theorem cz_begin {a b : Int32} {s : am_S} : ∃ s1, F_X9_begin_70 a b s = some s1 ∧ sq_CT a b sq_T0 s1 ∧ ix_F2 (fun k _ => k == 70 || k == 71) s s1 := by
  refine ⟨am_sI (am_sI (am_sI (am_sI s 70 0 a) 70 1 b) 70 2 0) 70 3 0, rfl, ⟨?_, ?_, ?_, ?_, fun i hi => ?_⟩, ((((ix_F2.I (by rfl)).tr (ix_F2.I (by rfl))).tr (ix_F2.I (by rfl))).tr (ix_F2.I (by rfl)))⟩
  · rw [ix_sIj (by decide), ix_sIj (by decide), ix_sIj (by decide), ix_sIs]
  · rw [ix_sIj (by decide), ix_sIj (by decide), ix_sIs]
  · rw [ix_sIj (by decide), ix_sIs]; rfl
  · rw [ix_sIs]; rfl
  · exact absurd hi (by show ¬ i < min 0 30; omega)
theorem ag_act {a b x : Int32} : jz_A (F_X11_act_0 a b x) (F_X12_act_82 a b x) := by
  intro s j
  obtain ⟨ok, R⟩ := j.1
  have z1 : ¬ (1 : Int32) = 0 := by decide
  have z0 : (0 : Int32) = 0 := rfl
  -- nothing sings
  have hno : ∀ (r : Int32), F_X11_act_0 a b x s = F_X11_act_0_b24 s → (∀ s1 : am_S, ix_F2 (fun k _ => k == 70 || k == 71) s s1 → F_X12_onShelf_82 a (am_sI (am_sI s1 82 36 0) 82 40 0) = some (r, am_sI (am_sI s1 82 36 0) 82 40 0)) → (r < 0 ∨ ¬ (0 ≤ b ∧ b ≤ 3)) → ∃ v s1 s2, F_X11_act_0 a b x s = some (v, s1) ∧ F_X12_act_82 a b x s1 = some (v, s2) ∧ jz_J s2 := by
    intro r hc hm hr
    obtain ⟨s1, c1, c2, c3⟩ := cz_begin (a := 0) (b := 0) (s := s)
    have hm1 := hm s1 c3
    refine ⟨0, s1, am_sI (am_sI (am_sI s1 82 36 0) 82 40 0) 82 37 r, ?_, ?_, jz_sing (n := 0) j c3 (((ix_F2.I (by rfl)).tr (ix_F2.I (by rfl))).tr (ix_F2.I (by rfl))) (by omega) c2.2.2.2.1 ?_ (fun i hi => absurd hi (by omega))⟩
    · rw [hc, F_X11_act_0_b24, c1, ix_b1]
    · rw [F_X12_act_82, ix_b1, ix_b1, hm1, ix_b1, ix_b1, ix_sIs]
      by_cases hr0 : r < 0
      · rw [if_pos hr0]
      · rw [if_neg hr0, mz_in0x3, ix_b1, ix_wi_n (hr.resolve_left hr0)]; rfl
    · rw [ix_sIj (by decide), ix_sIj (by decide), ix_sIs]; rfl
  by_cases h1 : (0 : Int32) ≤ a ∧ a ≤ 3
  rotate_left
  · refine hno (-1) ?_ (fun s1 _ => mz_onShelf0 h1) (Or.inl (by decide))
    rw [F_X11_act_0, cz_isShelf, ix_b1, ix_wi_n h1]; rfl
  obtain ⟨q, -, hq, rfl⟩ := ix_rng (a := 0) (b := 3) (by omega) (by omega) h1
  have hq4 : q < 4 := by omega
  have hi4 : am_in (Int32.ofNat q) 4 := (ix_in (by omega)).mpr (by omega)
  have hn : (Int32.ofNat q).toNatClampNeg = q := ix_nat (by omega)
  have e1 : ∀ (s1 : am_S), ix_F2 (fun k _ => k == 70 || k == 71) s s1 → ∀ k, k ≠ 70 → k ≠ 71 → k ≠ 82 → (am_sI (am_sI s1 82 36 0) 82 40 0).1 k = s.1 k := fun s1 f k h1 h2 h3 => by
    rw [ix_sIn h3, ix_sIn h3]; exact funext fun z => f.1 k z (by simp; omega)
  have hsh : ∀ (s1 : am_S), ix_F2 (fun k _ => k == 70 || k == 71) s s1 → F_X12_onShelf_82 (Int32.ofNat q) (am_sI (am_sI s1 82 36 0) 82 40 0) = some (if s.1 96 q = 1 ∧ (0 ≤ s.1 97 q ∧ s.1 97 q < s.1 83 0) then s.1 97 q else -1, am_sI (am_sI s1 82 36 0) 82 40 0) := by
    intro s1 f
    have e := e1 s1 f
    have h := mz_onShelf (s := am_sI (am_sI s1 82 36 0) 82 40 0) (q := q) (by rw [e 83 (by decide) (by decide) (by decide)]; exact ok) hq4
    rw [e 83 (by decide) (by decide) (by decide), e 96 (by decide) (by decide) (by decide), e 97 (by decide) (by decide) (by decide)] at h
    exact h
  by_cases h2 : (0 : Int32) ≤ b ∧ b ≤ 3
  rotate_left
  · refine hno _ ?_ hsh (Or.inr h2)
    rw [F_X11_act_0, cz_isShelf, ix_b1, ix_wi_p h1]
    dsimp only
    rw [if_neg z1, ix_cw, ix_b1, ix_wi_n h2]; rfl
  obtain ⟨w, -, hw, rfl⟩ := ix_rng (a := 0) (b := 3) (by omega) (by omega) h2
  have jL := j.2.2.2.2.2.1 q hq4
  by_cases hv : s.1 79 q = 0 ∧ (0 ≤ s.1 80 q ∧ s.1 80 q < s.1 83 0)
  rotate_left
  · have hv2 : ¬ (s.1 96 q = 1 ∧ (0 ≤ s.1 97 q ∧ s.1 97 q < s.1 83 0)) := by
      rintro ⟨g1, g2⟩
      rcases jL with ⟨l1, l2, l3, l4⟩ | ⟨l1, l2, l3, l4, l5⟩ | ⟨l1, l2⟩
      · exact hv ⟨l1, by rw [l3]; exact g2⟩
      · rw [l2] at g1; exact absurd g1 (by decide)
      · rw [l2] at g1; exact absurd g1 (by decide)
    refine hno (-1) ?_ (fun s1 f => by rw [hsh s1 f, if_neg hv2]) (Or.inl (by decide))
    rw [F_X11_act_0, cz_isShelf, ix_b1, ix_wi_p h1]
    dsimp only
    rw [if_neg z1, ix_cw, ix_b1, ix_wi_p h2]
    dsimp only
    rw [if_neg z1, cz_holds R hq4, if_neg hv]; rfl
  have e97 : s.1 96 q = 1 ∧ s.1 97 q = s.1 80 q := by
    rcases jL with ⟨l1, l2, l3, l4⟩ | ⟨l1, l2, l3, l4, l5⟩ | ⟨l1, l2⟩
    · exact ⟨l2, l3.symm⟩
    · have := hv.1; rw [l1] at this; exact absurd this (by decide)
    · have := hv.1; rw [l1] at this; exact absurd this (by decide)
  obtain ⟨v, hv1, hv6, ev⟩ := sq_isv ok hv.2
  have hv2 : s.1 96 q = 1 ∧ (0 ≤ s.1 97 q ∧ s.1 97 q < s.1 83 0) := ⟨e97.1, by rw [e97.2]; exact hv.2⟩
  have hv6i : am_in (Int32.ofNat v) 6 := (ix_in (by omega)).mpr (by omega)
  have hnv : (Int32.ofNat v).toNatClampNeg = v := ix_nat (by omega)
  obtain ⟨rr, er⟩ : ∃ rr, rr = s.1 83 (24 + 5 * v + 2) := ⟨_, rfl⟩
  have e12 : s.1 12 v = rr := by rw [er]; exact (R.2.2.2.2.2.2.2.2.2.1 v hv6).2.2.1
  obtain ⟨s1, c1, c2, c3⟩ := cz_begin (a := Int32.ofNat v) (b := rr) (s := s)
  have R1 : sq_R s1.1 8 (s.1 83) := sq_R_fr (fun k h1 h2 => funext fun z => c3.1 k z (by simp; omega)) R
  obtain ⟨k, hk, ek, hth⟩ := cz_thing R1 ok hv6
  obtain ⟨s3, e3⟩ : ∃ s3, s3 = am_sI (am_sI (am_sI s1 82 36 0) 82 40 0) 82 37 (Int32.ofNat v) := ⟨_, rfl⟩
  have hcz : F_X11_holdsVoice_0 (Int32.ofNat q) s = some (1, s) := by rw [cz_holds R hq4, if_pos hv]
  -- the class up to its thing
  have hC : ∀ res, F_X11_act_0 (Int32.ofNat q) (Int32.ofNat w) x s = res ↔ (if Int32.ofNat w = (0 : Int32) then (if k = 0 then ((F_X10_hums_2_70 x s1).bind fun q => (F_X11_act_0_b161 q.1 q.2)) else (if k = 1 then ((F_X0_hums_3_70 x s1).bind fun q => (F_X11_act_0_b161 q.1 q.2)) else (if k = 2 then ((F_X10_hums_4_70 x s1).bind fun q => (F_X11_act_0_b161 q.1 q.2)) else (if k = 3 then ((F_X4_hums_5_70 x s1).bind fun q => (F_X11_act_0_b161 q.1 q.2)) else (if k = 4 then ((F_X10_hums_6_70 x s1).bind fun q => (F_X11_act_0_b161 q.1 q.2)) else ((F_X10_hums_7_70 x s1).bind fun q => (F_X11_act_0_b161 q.1 q.2))))))) else (if Int32.ofNat w = (1 : Int32) then (if k = 0 then ((F_X10_calls_2_70 x s1).bind fun q => (F_X11_act_0_b161 q.1 q.2)) else (if k = 1 then ((F_X10_calls_3_70 x s1).bind fun q => (F_X11_act_0_b161 q.1 q.2)) else (if k = 2 then ((F_X5_calls_4_70 x s1).bind fun q => (F_X11_act_0_b161 q.1 q.2)) else (if k = 3 then ((F_X5_calls_5_70 x s1).bind fun q => (F_X11_act_0_b161 q.1 q.2)) else (if k = 4 then ((F_X10_calls_6_70 x s1).bind fun q => (F_X11_act_0_b161 q.1 q.2)) else ((F_X2_calls_7_70 x s1).bind fun q => (F_X11_act_0_b161 q.1 q.2))))))) else (if Int32.ofNat w = (2 : Int32) then (if k = 0 then ((F_X10_parts_2_70 x s1).bind fun q => (F_X11_act_0_b161 q.1 q.2)) else (if k = 1 then ((F_X10_parts_3_70 x s1).bind fun q => (F_X11_act_0_b161 q.1 q.2)) else (if k = 2 then ((F_X10_parts_4_70 x s1).bind fun q => (F_X11_act_0_b161 q.1 q.2)) else (if k = 3 then ((F_X10_parts_5_70 x s1).bind fun q => (F_X11_act_0_b161 q.1 q.2)) else (if k = 4 then ((F_X1_parts_6_70 x s1).bind fun q => (F_X11_act_0_b161 q.1 q.2)) else ((F_X2_parts_7_70 x s1).bind fun q => (F_X11_act_0_b161 q.1 q.2))))))) else (if k = 0 then ((F_X10_rings_2_70 x s1).bind fun q => (F_X11_act_0_b161 q.1 q.2)) else (if k = 1 then ((F_X10_rings_3_70 x s1).bind fun q => (F_X11_act_0_b161 q.1 q.2)) else (if k = 2 then ((F_X10_rings_4_70 x s1).bind fun q => (F_X11_act_0_b161 q.1 q.2)) else (if k = 3 then ((F_X4_rings_5_70 x s1).bind fun q => (F_X11_act_0_b161 q.1 q.2)) else (if k = 4 then ((F_X10_rings_6_70 x s1).bind fun q => (F_X11_act_0_b161 q.1 q.2)) else ((F_X10_rings_7_70 x s1).bind fun q => (F_X11_act_0_b161 q.1 q.2)))))))))) = res := by
    intro res
    rw [F_X11_act_0, cz_isShelf, ix_b1, ix_wi_p h1]
    dsimp only
    rw [if_neg z1, ix_cw, ix_b1, ix_wi_p h2]
    dsimp only
    rw [if_neg z1, hcz, ix_b1]
    dsimp only
    rw [if_neg z1, if_pos hi4]
    simp only [hn, ev, hnv]
    rw [if_pos hv6i, e12, c1, ix_b1, hth, ix_b1]
  have hM : ∀ (u1 : am_S) res, ix_F2 (fun k _ => k == 70 || k == 71) s u1 → (if Int32.ofNat w = (0 : Int32) then ((F_X12_hums_82 x (am_sI (am_sI (am_sI (am_sI (am_sI u1 82 36 0) 82 40 0) 82 37 (Int32.ofNat v)) 82 38 rr) 82 39 (Int32.ofNat k))).bind fun q22 => (F_X12_act_82_b109 x q22.1 q22.2)) else (if Int32.ofNat w = (1 : Int32) then ((F_X12_calls_82 x (am_sI (am_sI (am_sI (am_sI (am_sI u1 82 36 0) 82 40 0) 82 37 (Int32.ofNat v)) 82 38 rr) 82 39 (Int32.ofNat k))).bind fun q22 => (F_X12_act_82_b109 x q22.1 q22.2)) else (if Int32.ofNat w = (2 : Int32) then ((F_X12_parts_82 x (am_sI (am_sI (am_sI (am_sI (am_sI u1 82 36 0) 82 40 0) 82 37 (Int32.ofNat v)) 82 38 rr) 82 39 (Int32.ofNat k))).bind fun q22 => (F_X12_act_82_b109 x q22.1 q22.2)) else ((F_X12_rings_82 x (am_sI (am_sI (am_sI (am_sI (am_sI u1 82 36 0) 82 40 0) 82 37 (Int32.ofNat v)) 82 38 rr) 82 39 (Int32.ofNat k))).bind fun q22 => (F_X12_act_82_b109 x q22.1 q22.2))))) = res → F_X12_act_82 (Int32.ofNat q) (Int32.ofNat w) x u1 = res := by
    intro u1 res f h
    have e := e1 u1 f
    rw [F_X12_act_82, ix_b1, ix_b1, hsh u1 f, if_pos hv2, e97.2, ev, ix_b1, ix_b1, ix_sIs, if_neg (ix_nn (by omega)), mz_in0x3, ix_b1, ix_wi_p h2]
    dsimp only
    rw [if_neg z1, ix_sIs, mz_its2 hv6, ix_b1]
    dsimp only
    rw [ix_b1, ix_sIj (by decide), ix_sIs, mz_its0 hv6, ix_b1]
    dsimp only
    have u83 : u1.1 83 = s.1 83 := funext fun z => f.1 83 z (by simp)
    rw [ix_b1]
    simp only [ix_sIn (show (83 : Nat) ≠ 82 by decide), u83, ek, ← er]
    exact h
  -- they sing alike
  have hfin : ∀ (v1 : Int32) (T : sq_T) (u1 : am_S), T.1 ≤ 100 → sq_CT (Int32.ofNat v) rr T u1 → ix_F2 sq_pA s1 u1 → F_X11_act_0 (Int32.ofNat q) (Int32.ofNat w) x s = some (v1, u1) → (sq_MT k (Int32.ofNat v) rr sq_T0 ((am_sI (am_sI (am_sI (am_sI (am_sI u1 82 36 0) 82 40 0) 82 37 (Int32.ofNat v)) 82 38 rr) 82 39 (Int32.ofNat k))) → ∃ u2, F_X12_act_82 (Int32.ofNat q) (Int32.ofNat w) x u1 = some (v1, u2) ∧ sq_MT k (Int32.ofNat v) rr T u2 ∧ ix_F2 sq_pB ((am_sI (am_sI (am_sI (am_sI (am_sI u1 82 36 0) 82 40 0) 82 37 (Int32.ofNat v)) 82 38 rr) 82 39 (Int32.ofNat k))) u2) → ∃ v s1 s2, F_X11_act_0 (Int32.ofNat q) (Int32.ofNat w) x s = some (v, s1) ∧ F_X12_act_82 (Int32.ofNat q) (Int32.ofNat w) x s1 = some (v, s2) ∧ jz_J s2 := by
    intro v1 T u1 hT hCT f1 hc hm
    obtain ⟨u2, m1, m2, m3⟩ := hm (by
      refine ⟨?_, ?_, ?_, ?_, ?_, fun i hi => absurd hi (by show ¬ i < min 0 30; omega)⟩
      · rw [ix_sIj (by decide), ix_sIj (by decide), ix_sIs]
      · rw [ix_sIj (by decide), ix_sIs]
      · rw [ix_sIs]
      · rw [ix_sIj (by decide), ix_sIj (by decide), ix_sIj (by decide), ix_sIs]; rfl
      · rw [ix_sIj (by decide), ix_sIj (by decide), ix_sIj (by decide), ix_sIj (by decide), ix_sIs]; rfl)
    refine ⟨v1, u1, u2, hc, m1, jz_sing (n := T.1) j (c3.tr (f1.wd (fun k j hk => by unfold sq_pA; simp at hk ⊢; omega))) ((((((ix_F2.I (by rfl)).tr (ix_F2.I (by rfl))).tr (ix_F2.I (by rfl))).tr (ix_F2.I (by rfl))).tr (ix_F2.I (by rfl))).tr (m3.wd (fun k j hk => by unfold sq_pB; simp at hk ⊢; omega))) (by omega) hCT.2.2.2.1 m2.2.2.2.2.1 (fun i hi => by rw [hCT.2.2.2.2 i hi, m2.2.2.2.2.2 i hi])⟩
  have l4 : w = 0 ∨ w = 1 ∨ w = 2 ∨ w = 3 := by omega
  rcases l4 with rfl | rfl | rfl | rfl
  · obtain ⟨u1, a1, a2, a3⟩ := cz_act0 (x := x) hk c2
    have hle := @sq_hum_le k (Int32.ofNat v) x sq_T0
    have h00 : sq_T0.1 = 0 := rfl
    refine hfin _ _ u1 (by omega) a2 a3 ((hC _).mpr (by rw [if_pos (show Int32.ofNat 0 = (0 : Int32) from rfl)]; exact a1)) (fun hm => ?_)
    obtain ⟨u2, b1, b2, b3⟩ := mz_act0 (x := x) hk hm (by omega)
    exact ⟨u2, hM u1 _ (c3.tr (a3.wd (fun k j hk => by unfold sq_pA; simp at hk ⊢; omega))) (by rw [if_pos (show Int32.ofNat 0 = (0 : Int32) from rfl)]; exact b1), b2, b3⟩
  · obtain ⟨u1, a1, a2, a3⟩ := cz_act1 (x := x) hk c2
    have hle := @sq_call_le k (Int32.ofNat v) rr x sq_T0
    have h00 : sq_T0.1 = 0 := rfl
    refine hfin _ _ u1 (by omega) a2 a3 ((hC _).mpr (by rw [if_neg (show ¬ Int32.ofNat 1 = (0 : Int32) by decide), if_pos (show Int32.ofNat 1 = (1 : Int32) from rfl)]; exact a1)) (fun hm => ?_)
    obtain ⟨u2, b1, b2, b3⟩ := mz_act1 (x := x) hk hm (by omega)
    exact ⟨u2, hM u1 _ (c3.tr (a3.wd (fun k j hk => by unfold sq_pA; simp at hk ⊢; omega))) (by rw [if_neg (show ¬ Int32.ofNat 1 = (0 : Int32) by decide), if_pos (show Int32.ofNat 1 = (1 : Int32) from rfl)]; exact b1), b2, b3⟩
  · obtain ⟨u1, a1, a2, a3⟩ := cz_act2 (x := x) hk c2
    have hle := @sq_part_le k (Int32.ofNat v) rr x sq_T0
    have h00 : sq_T0.1 = 0 := rfl
    refine hfin _ _ u1 (by omega) a2 a3 ((hC _).mpr (by rw [if_neg (show ¬ Int32.ofNat 2 = (0 : Int32) by decide), if_neg (show ¬ Int32.ofNat 2 = (1 : Int32) by decide), if_pos (show Int32.ofNat 2 = (2 : Int32) from rfl)]; exact a1)) (fun hm => ?_)
    obtain ⟨u2, b1, b2, b3⟩ := mz_act2 (x := x) hk hm (by omega)
    exact ⟨u2, hM u1 _ (c3.tr (a3.wd (fun k j hk => by unfold sq_pA; simp at hk ⊢; omega))) (by rw [if_neg (show ¬ Int32.ofNat 2 = (0 : Int32) by decide), if_neg (show ¬ Int32.ofNat 2 = (1 : Int32) by decide), if_pos (show Int32.ofNat 2 = (2 : Int32) from rfl)]; exact b1), b2, b3⟩
  · obtain ⟨u1, a1, a2, a3⟩ := cz_act3 (x := x) hk c2
    have hle := @sq_ring_le k (Int32.ofNat v) rr x sq_T0
    have h00 : sq_T0.1 = 0 := rfl
    refine hfin _ _ u1 (by omega) a2 a3 ((hC _).mpr (by rw [if_neg (show ¬ Int32.ofNat 3 = (0 : Int32) by decide), if_neg (show ¬ Int32.ofNat 3 = (1 : Int32) by decide), if_neg (show ¬ Int32.ofNat 3 = (2 : Int32) by decide)]; exact a1)) (fun hm => ?_)
    obtain ⟨u2, b1, b2, b3⟩ := mz_act3 (x := x) hk hm (by omega)
    exact ⟨u2, hM u1 _ (c3.tr (a3.wd (fun k j hk => by unfold sq_pA; simp at hk ⊢; omega))) (by rw [if_neg (show ¬ Int32.ofNat 3 = (0 : Int32) by decide), if_neg (show ¬ Int32.ofNat 3 = (1 : Int32) by decide), if_neg (show ¬ Int32.ofNat 3 = (2 : Int32) by decide)]; exact b1), b2, b3⟩
theorem ix_mn {b : Nat} (hb : b < 1000000) : (if (30 : Int32) ≤ Int32.ofNat b then (30 : Int32) else Int32.ofNat b) = Int32.ofNat (min b 30) := by
  by_cases h : 30 ≤ b
  · rw [if_pos (by rw [ix_Lle (by omega) (by omega)]; exact h), show min b 30 = 30 by omega]; rfl
  · rw [if_neg (by rw [ix_Lle (by omega) (by omega)]; exact h), show min b 30 = b by omega]
theorem mz_traced {s : am_S} {b : Nat} (hb : b ≤ 1000) (h : s.1 82 36 = Int32.ofNat b) : F_X12_traced_82 s = some (Int32.ofNat (min b 30), s) := by
  rw [F_X12_traced_82, h, ← ix_mn (by omega)]
  split <;> rfl
theorem ag_trace {a : Int32} : jz_A (F_X11_trace_0 a) (F_X12_trace_82 a) := by
  intro s j
  obtain ⟨b, hb, g1, g2, g3⟩ := j.2.2.2.2.2.2.1
  have z1 : ¬ (1 : Int32) = 0 := by decide
  by_cases h : 0 ≤ a ∧ a ≤ Int32.ofNat (min b 30) - 1
  rotate_left
  · refine jz_A0 (v := -3) j ?_ ?_
    · rw [F_X11_trace_0, g2, ix_cw, ix_b1, ix_wi_n h]; rfl
    · rw [F_X12_trace_82, mz_traced hb g1, ix_b1]
      dsimp only
      rw [ix_mw0, ix_wi_n h]; rfl
  obtain ⟨i, hi, rfl⟩ := sq_itN (by omega) h
  have hii : am_in (Int32.ofNat i) 30 := (ix_in (by omega)).mpr (by omega)
  have hni : (Int32.ofNat i).toNatClampNeg = i := ix_nat (by omega)
  refine jz_A0 (v := s.1 71 i) j ?_ ?_
  · rw [F_X11_trace_0, g2, ix_cw, ix_b1, ix_wi_p h]
    dsimp only
    rw [if_neg z1, if_pos hii, hni]
  · rw [F_X12_trace_82, mz_traced hb g1, ix_b1]
    dsimp only
    rw [ix_mw0, ix_b1, ix_wi_p h]
    dsimp only
    rw [if_neg z1, if_pos hii, hni, g3 i hi]
theorem sq_ones1 : ∀ x, x < 64 → (x = 0 → sq_pc x = 0) ∧ (x ≠ 0 → ∃ y, y < x ∧ (Int32.ofNat x &&& (Int32.ofNat x - 1)) = Int32.ofNat y ∧ sq_pc x = sq_pc y + 1) := by
  have h : ∀ x, x < 64 → (x = 0 → sq_pc x = 0) ∧ (x ≠ 0 → (x &&& (x - 1)) < x ∧ (Int32.ofNat x &&& (Int32.ofNat x - 1)) = Int32.ofNat (x &&& (x - 1)) ∧ sq_pc x = sq_pc (x &&& (x - 1)) + 1) := by decide +kernel
  intro x hx
  exact ⟨(h x hx).1, fun z => ⟨_, (h x hx).2 z⟩⟩
theorem mz_ones {x0 : Int32} {s : am_S} : ∀ (x : Nat), x < 64 → ∀ (f c : Nat), x < f → F_X12_ones_b4 f x0 (Int32.ofNat c) (Int32.ofNat x) s = some (Int32.ofNat (c + sq_pc x), s) := by
  intro x
  induction x using Nat.strongRecOn with
  | _ x ih =>
    intro hx f c hf
    obtain ⟨f, rfl⟩ : ∃ g, f = g + 1 := ⟨f - 1, by omega⟩
    by_cases h0 : x = 0
    · rw [F_X12_ones_b4, if_pos (by rw [h0]; rfl), (sq_ones1 x hx).1 h0]; rfl
    · obtain ⟨y, y1, y2, y3⟩ := (sq_ones1 x hx).2 h0
      rw [F_X12_ones_b4, if_neg (by rw [ix_eqL (by omega) (by omega)]; exact h0), y2, ix_addL, ih y y1 (by omega) f (c + 1) (by omega), y3, show c + 1 + sq_pc y = c + (sq_pc y + 1) by omega]
theorem ag_many {a : Int32} : jz_A (F_X11_many_0 a) (F_X12_many_82 a) := by
  intro s j
  obtain ⟨ok, R⟩ := j.1
  have n0 : (0 : Int32).toNatClampNeg = 0 := rfl
  have n1 : (1 : Int32).toNatClampNeg = 1 := rfl
  have n6 : (6 : Int32).toNatClampNeg = 6 := rfl
  obtain ⟨n, -, r2, r3, -⟩ := j.2.2.2.1
  obtain ⟨nt, -, t2, t3, -⟩ := j.2.2.1
  obtain ⟨b, hb, g1, g2, g3⟩ := j.2.2.2.2.2.2.1
  by_cases h0 : a = 0
  · refine jz_A0 (v := s.1 83 0) j ?_ ?_
    · rw [F_X11_many_0, if_pos h0, R.2.2.2.2.2.1]
    · rw [F_X12_many_82, if_pos h0, if_pos ix_k0, n0]
  by_cases h1 : a = 1
  · refine jz_A0 (v := s.1 83 1) j ?_ ?_
    · rw [F_X11_many_0, if_neg h0, if_pos h1, R.2.2.2.2.2.2.2.2.2.2.2.1]
    · rw [F_X12_many_82, if_neg h0, if_pos h1, if_pos ix_k1, n1]
  by_cases h2 : a = 2
  · obtain ⟨p1, p2⟩ := sq_bc_t (sq_cs (s.1 83)) (sq_cs_lt (s.1 83))
    refine jz_A0 (v := Int32.ofNat (sq_pc (sq_cs (s.1 83)))) j ?_ ?_
    · rw [F_X11_many_0, if_neg h0, if_neg h1, if_pos h2, R.2.2.2.2.2.2.1, cz_bc, ix_b1, p1]
    · have hh := mz_ones (x0 := Int32.ofNat (sq_cs (s.1 83))) (s := s) (sq_cs (s.1 83)) (sq_cs_lt (s.1 83)) 1000 0 (by have := sq_cs_lt (s.1 83); omega)
      rw [Nat.zero_add] at hh
      have hh' : F_X12_ones (Int32.ofNat (sq_cs (s.1 83))) s = _ := hh
      rw [F_X12_many_82, if_neg h0, if_neg h1, if_pos h2, mz_caught ok, ix_b1]
      dsimp only
      rw [hh', ix_b1]
  by_cases h3 : a = 3
  · refine jz_A0 (v := s.1 83 6) j ?_ ?_
    · rw [F_X11_many_0, if_neg h0, if_neg h1, if_neg h2, if_pos h3, R.2.2.2.2.2.2.2.1]
    · rw [F_X12_many_82, if_neg h0, if_neg h1, if_neg h2, if_pos h3, if_pos ix_k6, n6]
  by_cases h4 : a = 4
  · refine jz_A0 (v := Int32.ofNat n) j ?_ ?_
    · rw [F_X11_many_0, if_neg h0, if_neg h1, if_neg h2, if_neg h3, if_pos h4, r2]
    · rw [F_X12_many_82, if_neg h0, if_neg h1, if_neg h2, if_neg h3, if_pos h4, r3]
  by_cases h5 : a = 5
  · refine jz_A0 (v := Int32.ofNat nt) j ?_ ?_
    · rw [F_X11_many_0, if_neg h0, if_neg h1, if_neg h2, if_neg h3, if_neg h4, if_pos h5, t2]
    · rw [F_X12_many_82, if_neg h0, if_neg h1, if_neg h2, if_neg h3, if_neg h4, if_pos h5, t3]
  by_cases h6 : a = 6
  · refine jz_A0 (v := Int32.ofNat (min b 30)) j ?_ ?_
    · rw [F_X11_many_0, if_neg h0, if_neg h1, if_neg h2, if_neg h3, if_neg h4, if_neg h5, if_pos h6, g2]
    · rw [F_X12_many_82, if_neg h0, if_neg h1, if_neg h2, if_neg h3, if_neg h4, if_neg h5, if_pos h6, mz_traced hb g1, ix_b1]
  refine jz_A0 (v := -1) j ?_ ?_
  · rw [F_X11_many_0, if_neg h0, if_neg h1, if_neg h2, if_neg h3, if_neg h4, if_neg h5, if_neg h6]
  · rw [F_X12_many_82, if_neg h0, if_neg h1, if_neg h2, if_neg h3, if_neg h4, if_neg h5, if_neg h6]
