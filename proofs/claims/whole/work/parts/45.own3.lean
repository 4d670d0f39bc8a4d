/-! LAYER 2: change, set, anew, voiceOf agree (written by wip/whole/l2/gen45.py) -/
theorem mz_in0x1 {x : Int32} {s : am_S} : F_X12_in x.toInt64 0 1 s = some (ix_wi x 0 1, s) := ix_mwl (by decide) (by decide)
theorem mz_in0x2 {x : Int32} {s : am_S} : F_X12_in x.toInt64 0 2 s = some (ix_wi x 0 2, s) := ix_mwl (by decide) (by decide)
theorem mz_in0x8 {x : Int32} {s : am_S} : F_X12_in x.toInt64 0 8 s = some (ix_wi x 0 8, s) := ix_mwl (by decide) (by decide)
theorem mz_in0x9 {x : Int32} {s : am_S} : F_X12_in x.toInt64 0 9 s = some (ix_wi x 0 9, s) := ix_mwl (by decide) (by decide)
theorem mz_in1x9 {x : Int32} {s : am_S} : F_X12_in x.toInt64 1 9 s = some (ix_wi x 1 9, s) := ix_mwl (by decide) (by decide)
theorem mz_in1x16 {x : Int32} {s : am_S} : F_X12_in x.toInt64 1 16 s = some (ix_wi x 1 16, s) := ix_mwl (by decide) (by decide)
theorem mz_in0x16 {x : Int32} {s : am_S} : F_X12_in x.toInt64 0 16 s = some (ix_wi x 0 16, s) := ix_mwl (by decide) (by decide)
theorem mz_in0x3 {x : Int32} {s : am_S} : F_X12_in x.toInt64 0 3 s = some (ix_wi x 0 3, s) := ix_mwl (by decide) (by decide)
theorem mz_in0x4 {x : Int32} {s : am_S} : F_X12_in x.toInt64 0 4 s = some (ix_wi x 0 4, s) := ix_mwl (by decide) (by decide)
theorem mz_in0x5 {x : Int32} {s : am_S} : F_X12_in x.toInt64 0 5 s = some (ix_wi x 0 5, s) := ix_mwl (by decide) (by decide)
theorem mz_in10x14 {x : Int32} {s : am_S} : F_X12_in x.toInt64 10 14 s = some (ix_wi x 10 14, s) := ix_mwl (by decide) (by decide)
theorem mz_in0x20 {x : Int32} {s : am_S} : F_X12_in x.toInt64 0 20 s = some (ix_wi x 0 20, s) := ix_mwl (by decide) (by decide)
theorem mz_in1x8 {x : Int32} {s : am_S} : F_X12_in x.toInt64 1 8 s = some (ix_wi x 1 8, s) := ix_mwl (by decide) (by decide)
theorem mz_in1x40 {x : Int32} {s : am_S} : F_X12_in x.toInt64 1 40 s = some (ix_wi x 1 40, s) := ix_mwl (by decide) (by decide)
theorem mz_in0x999 {x : Int32} {s : am_S} : F_X12_in x.toInt64 0 999 s = some (ix_wi x 0 999, s) := ix_mwl (by decide) (by decide)
theorem mz_in1x4 {x : Int32} {s : am_S} : F_X12_in x.toInt64 1 4 s = some (ix_wi x 1 4, s) := ix_mwl (by decide) (by decide)
theorem mz_in97x122 {x : Int32} {s : am_S} : F_X12_in x.toInt64 97 122 s = some (ix_wi x 97 122, s) := ix_mwl (by decide) (by decide)
theorem mz_in48x57 {x : Int32} {s : am_S} : F_X12_in x.toInt64 48 57 s = some (ix_wi x 48 57, s) := ix_mwl (by decide) (by decide)
theorem jz_mark {s : am_S} {v : Nat} {b : Int32} (j : jz_J s) (hv : v < sq_cn (s.1 83)) (hb : b = 0 ∨ b = 1) : ∃ s1, F_X8_markCaught_8 (Int32.ofNat v) b s = some s1 ∧ s1.1 83 = s.1 83 ∧ jz_J (am_sI s1 83 (24 + 5 * v + 4) b) := by
  obtain ⟨ok, R⟩ := j.1
  have h6 := (sq_cn_ok ok).1
  obtain ⟨s1, m1, m2, m3⟩ := cz_mark R (show v < 6 by omega) hb
  have h83 : s1.1 83 = s.1 83 := m3.1 83 rfl
  refine ⟨s1, m1, h83, jz_fin j m2 (m3.F2 (fun k q h => ?_)) (ix_F2.I (by rfl)) (fun q h1 h2 => ix_sIn (by omega)) (by rw [ix_sIf, h83]) (sq_Ok_caught ok hv ?_)⟩
  · cases hk : (k == 8)
    · rfl
    · rw [beq_iff_eq.mp hk] at h; cases h
  · rcases hb with rfl | rfl
    · exact ⟨0, by omega, rfl⟩
    · exact ⟨1, by omega, rfl⟩
theorem ag_change {a w x : Int32} : jz_A (F_X11_change_0 a w x) (F_X12_change_82 a w x) := by
  intro s j
  obtain ⟨ok, R⟩ := j.1
  by_cases h1 : 0 ≤ a ∧ a < s.1 83 0
  rotate_left
  · exact jz_A0 (v := -1) j (by simp only [F_X11_change_0, cz_has R, if_neg h1, ix_b1, ix_10, ix_00, if_true, if_false]) (by simp only [F_X12_change_82, mz_isVoice ok, if_neg h1, ix_b1, ix_10, ix_00, if_true, if_false])
  obtain ⟨v, hv, hv6, rfl⟩ := sq_isv ok h1
  have hiv : ∀ t : am_S, t.1 83 = s.1 83 → F_X12_isVoice_82 (Int32.ofNat v) t = some (1, t) := fun t ht => by
    have hi := mz_isVoice (x := Int32.ofNat v) (s := t) (by rw [ht]; exact ok)
    rw [ht, if_pos h1] at hi
    exact hi
  by_cases hw1 : w = 1
  · subst hw1
    by_cases h2 : (0 : Int32) ≤ x ∧ x ≤ 9
    · have hb : sq_N x 9 := by obtain ⟨z, -, hz, rfl⟩ := ix_rng (a := 0) (b := 9) (by omega) (by omega) h2; exact ⟨z, hz, rfl⟩
      have hr : s.1 11 v = s.1 83 (24 + 5 * v + 1) := cz_pitch R hv6
      have h83 : (am_sI s 11 v x).1 83 = s.1 83 := ix_sIn (by decide)
      have ea : ∀ t, F_X12_at (Int32.ofNat v) 1 t = some (Int32.ofNat (24 + 5 * v + 1), t) := fun t => mz_at (w := 1)
      refine ⟨s.1 11 v, am_sI s 11 v x, am_sI (am_sI s 11 v x) 83 (24 + 5 * v + 1) x, ?_, ?_, jz_set1 j (by unfold sq_mp; omega) (sq_Ok_up ok (by omega) (fun h => by omega) (fun h => by omega) (fun _ _ => by omega) (fun u hu => ⟨(fun h => by omega), (fun h => hb), (fun h => by omega), (fun h => by omega), by omega⟩) (fun h => by omega))⟩
      · unfold F_X11_change_0
        rw [cz_has R, if_pos h1, ix_b1, if_neg (show ¬ (1 : Int32) = 0 by decide)]
        skip
        rw [if_pos rfl]
        simp only [cz_isPitch, ix_wi_p h2, cz_ex11 hv6, ix_b1, ix_10, ix_00, if_true, if_false]
      · simp only [F_X12_change_82, hiv _ h83, mz_isPart1, ix_wi_p h2, ea, ix_b1, ix_10, ix_00, if_true, if_false]
        rw [mz_becomes (by omega), h83, hr]
        rfl
    · refine jz_A0 (v := -1) j ?_ ?_
      · unfold F_X11_change_0
        rw [cz_has R, if_pos h1, ix_b1, if_neg (show ¬ (1 : Int32) = 0 by decide)]
        skip
        rw [if_pos rfl]
        simp only [cz_isPitch, ix_wi_n h2, ix_b1, ix_10, ix_00, if_true, if_false]
      · simp only [F_X12_change_82, hiv _ rfl, mz_isPart1, ix_wi_n h2, ix_b1, ix_10, ix_00, if_true, if_false]
  by_cases hw2 : w = 2
  · subst hw2
    by_cases h2 : (1 : Int32) ≤ x ∧ x ≤ 9
    · have hb : sq_N x 9 := by obtain ⟨z, -, hz, rfl⟩ := ix_rng (a := 1) (b := 9) (by omega) (by omega) h2; exact ⟨z, hz, rfl⟩
      have hr : s.1 12 v = s.1 83 (24 + 5 * v + 2) := cz_str R hv6
      have h83 : (am_sI s 12 v x).1 83 = s.1 83 := ix_sIn (by decide)
      have ea : ∀ t, F_X12_at (Int32.ofNat v) 2 t = some (Int32.ofNat (24 + 5 * v + 2), t) := fun t => mz_at (w := 2)
      refine ⟨s.1 12 v, am_sI s 12 v x, am_sI (am_sI s 12 v x) 83 (24 + 5 * v + 2) x, ?_, ?_, jz_set1 j (by unfold sq_mp; omega) (sq_Ok_up ok (by omega) (fun h => by omega) (fun h => by omega) (fun _ _ => by omega) (fun u hu => ⟨(fun h => by omega), (fun h => by omega), (fun h => hb), (fun h => by omega), by omega⟩) (fun h => by omega))⟩
      · unfold F_X11_change_0
        rw [cz_has R, if_pos h1, ix_b1, if_neg (show ¬ (1 : Int32) = 0 by decide)]
        rw [if_neg (show ¬ (2 : Int32) = (1 : Int32) by decide)]
        rw [if_pos rfl]
        simp only [cz_isStrength, ix_wi_p h2, cz_ex12 hv6, ix_b1, ix_10, ix_00, if_true, if_false]
      · simp only [F_X12_change_82, hiv _ h83, mz_isPart2, ix_wi_p h2, ea, ix_b1, ix_10, ix_00, if_true, if_false]
        rw [mz_becomes (by omega), h83, hr]
        rfl
    · refine jz_A0 (v := -1) j ?_ ?_
      · unfold F_X11_change_0
        rw [cz_has R, if_pos h1, ix_b1, if_neg (show ¬ (1 : Int32) = 0 by decide)]
        rw [if_neg (show ¬ (2 : Int32) = (1 : Int32) by decide)]
        rw [if_pos rfl]
        simp only [cz_isStrength, ix_wi_n h2, ix_b1, ix_10, ix_00, if_true, if_false]
      · simp only [F_X12_change_82, hiv _ rfl, mz_isPart2, ix_wi_n h2, ix_b1, ix_10, ix_00, if_true, if_false]
  by_cases hw3 : w = 3
  · subst hw3
    by_cases h2 : (0 : Int32) ≤ x ∧ x ≤ 15
    · have hb : sq_N x 15 := by obtain ⟨z, -, hz, rfl⟩ := ix_rng (a := 0) (b := 15) (by omega) (by omega) h2; exact ⟨z, hz, rfl⟩
      have hr : s.1 13 v = s.1 83 (24 + 5 * v + 3) := cz_place R hv6
      have h83 : (am_sI s 13 v x).1 83 = s.1 83 := ix_sIn (by decide)
      have ea : ∀ t, F_X12_at (Int32.ofNat v) 3 t = some (Int32.ofNat (24 + 5 * v + 3), t) := fun t => mz_at (w := 3)
      refine ⟨s.1 13 v, am_sI s 13 v x, am_sI (am_sI s 13 v x) 83 (24 + 5 * v + 3) x, ?_, ?_, jz_set1 j (by unfold sq_mp; omega) (sq_Ok_up ok (by omega) (fun h => by omega) (fun h => by omega) (fun _ _ => by omega) (fun u hu => ⟨(fun h => by omega), (fun h => by omega), (fun h => by omega), (fun h => hb), by omega⟩) (fun h => by omega))⟩
      · unfold F_X11_change_0
        rw [cz_has R, if_pos h1, ix_b1, if_neg (show ¬ (1 : Int32) = 0 by decide)]
        rw [if_neg (show ¬ (3 : Int32) = (1 : Int32) by decide)]
        rw [if_neg (show ¬ (3 : Int32) = (2 : Int32) by decide)]
        rw [if_pos rfl]
        simp only [cz_isPlace, ix_wi_p h2, cz_ex13 hv6, ix_b1, ix_10, ix_00, if_true, if_false]
      · simp only [F_X12_change_82, hiv _ h83, mz_isPart3, ix_wi_p h2, ea, ix_b1, ix_10, ix_00, if_true, if_false]
        rw [mz_becomes (by omega), h83, hr]
        rfl
    · refine jz_A0 (v := -1) j ?_ ?_
      · unfold F_X11_change_0
        rw [cz_has R, if_pos h1, ix_b1, if_neg (show ¬ (1 : Int32) = 0 by decide)]
        rw [if_neg (show ¬ (3 : Int32) = (1 : Int32) by decide)]
        rw [if_neg (show ¬ (3 : Int32) = (2 : Int32) by decide)]
        rw [if_pos rfl]
        simp only [cz_isPlace, ix_wi_n h2, ix_b1, ix_10, ix_00, if_true, if_false]
      · simp only [F_X12_change_82, hiv _ rfl, mz_isPart3, ix_wi_n h2, ix_b1, ix_10, ix_00, if_true, if_false]
  by_cases hw4 : w = 4
  · subst hw4
    by_cases h2 : (0 : Int32) ≤ x ∧ x ≤ 1
    · have hx01 : x = 0 ∨ x = 1 := by
        obtain ⟨z, -, hz, rfl⟩ := ix_rng (a := 0) (b := 1) (by omega) (by omega) h2
        have : z = 0 ∨ z = 1 := by omega
        rcases this with rfl | rfl
        · exact Or.inl rfl
        · exact Or.inr rfl
      obtain ⟨s1, m1, h83, jj⟩ := jz_mark j hv hx01
      have ea : ∀ t, F_X12_at (Int32.ofNat v) 4 t = some (Int32.ofNat (24 + 5 * v + 4), t) := fun t => mz_at (w := 4)
      refine ⟨s.1 83 (24 + 5 * v + 4), s1, am_sI s1 83 (24 + 5 * v + 4) x, ?_, ?_, jj⟩
      · unfold F_X11_change_0
        rw [cz_has R, if_pos h1, ix_b1, if_neg (show ¬ (1 : Int32) = 0 by decide), if_neg (show ¬ (4 : Int32) = 1 by decide), if_neg (show ¬ (4 : Int32) = 2 by decide), if_neg (show ¬ (4 : Int32) = 3 by decide), if_pos rfl]
        simp only [ix_cw, ix_wi_p h2, ix_b1, ix_10, ix_00, if_true, if_false]
        have hcc : F_X11_changeCaught_0 (Int32.ofNat v) x s = some (s.1 83 (24 + 5 * v + 4), s1) := by
          unfold F_X11_changeCaught_0
          rw [cz_caught R ok hv6, ix_b1]
          have hb16 : ∀ y : Int32, F_X11_changeCaught_0_b16 (Int32.ofNat v) x y s = some (y, s1) := by
            intro y
            unfold F_X11_changeCaught_0_b16 F_X11_changeCaught_0_b32
            rcases hx01 with rfl | rfl
            · rw [if_neg (by decide), m1]; rfl
            · rw [if_pos rfl, m1]; rfl
          obtain ⟨n, hn, en⟩ := (ok.2.2.2.2.2.1 v hv6).2.2.2.2
          have hn2 : n = 0 ∨ n = 1 := by omega
          dsimp only
          rw [hb16, hb16]
          rcases hn2 with rfl | rfl
          · rw [en, if_pos (by decide)]; rfl
          · rw [en, if_neg (by decide)]; rfl
        rw [hcc]
        rfl
      · simp only [F_X12_change_82, hiv _ h83, mz_isPart4, ix_wi_p h2, ea, ix_b1, ix_10, ix_00, if_true, if_false]
        rw [mz_becomes (by omega), h83]
        rfl
    · refine jz_A0 (v := -1) j ?_ ?_
      · unfold F_X11_change_0
        rw [cz_has R, if_pos h1, ix_b1, if_neg (show ¬ (1 : Int32) = 0 by decide), if_neg (show ¬ (4 : Int32) = 1 by decide), if_neg (show ¬ (4 : Int32) = 2 by decide), if_neg (show ¬ (4 : Int32) = 3 by decide), if_pos rfl]
        simp only [ix_cw, ix_wi_n h2, ix_b1, ix_10, ix_00, if_true, if_false]
      · simp only [F_X12_change_82, hiv _ rfl, mz_isPart4, ix_wi_n h2, ix_b1, ix_10, ix_00, if_true, if_false]
  · refine jz_A0 (v := -1) j ?_ ?_
    · unfold F_X11_change_0
      rw [cz_has R, if_pos h1, ix_b1, if_neg (show ¬ (1 : Int32) = 0 by decide), if_neg hw1, if_neg hw2, if_neg hw3, if_neg hw4]
    · simp only [F_X12_change_82, hiv _ rfl, mz_isPart0 hw1 hw2 hw3 hw4, ix_b1, ix_10, ix_00, if_true, if_false]
theorem ag_set {a x : Int32} : jz_A (F_X11_set_0 a x) (F_X12_set_82 a x) := by
  intro s j
  obtain ⟨ok, R⟩ := j.1
  by_cases ha0 : a = 0
  · subst ha0
    have hc : ∀ t, F_X12_set_82 0 x t = (if (0 : Int32) = 1 then none else (F_X12_in x.toInt64 1 16 t).bind fun q8 => (if q8.1 = (0 : Int32) then (some ((-1 : Int32), q8.2)) else (if am_in (3 : Int32) 296 then (if (q8.2.1 83 (3 : Int32).toNatClampNeg) ≤ x then ((F_X12_becomes_82 (2 : Int32) x q8.2).bind fun q13 => (some (q13.1, q13.2))) else (some ((-4 : Int32), q8.2))) else none))) := by
      intro t
      unfold F_X12_set_82
      rw [if_neg (show ¬ (0 : Int32) = 1 by decide), if_neg (show ¬ (0 : Int32) = 1 by decide), if_pos rfl]
    have hi3 : ∀ t : am_S, t.1 83 (3 : Int32).toNatClampNeg = t.1 83 3 := fun _ => rfl
    by_cases h2 : (1 : Int32) ≤ x ∧ x ≤ 16
    · obtain ⟨n, hn1, hn2, rfl⟩ := ix_rng (a := 1) (b := 16) (by omega) (by omega) h2
      obtain ⟨-, ⟨t, e, t1, t2, t3, t4, t5⟩, -⟩ := id ok
      have r0 : s.1 8 0 = s.1 83 3 := R.1
      have r1 : s.1 8 1 = s.1 83 2 := R.2.1
      by_cases ht : t ≤ n
      · have h83 : (am_sI s 8 1 (Int32.ofNat n)).1 83 = s.1 83 := ix_sIn (by decide)
        refine ⟨s.1 8 1, am_sI s 8 1 (Int32.ofNat n), am_sI (am_sI s 8 1 (Int32.ofNat n)) 83 2 (Int32.ofNat n), ?_, ?_, jz_set1 j (by unfold sq_mp; omega) (sq_Ok_te ok (fun q h2 _ => ix_upn h2) (by rw [ix_upn (by omega)]; exact t4) ix_ups ht hn1 hn2)⟩
        · unfold F_X11_set_0 F_X11_changeEnd_0
          simp only [ix_cw, ix_wi_p h2, ix_b1, ix_10, ix_00, if_true, if_false]
          rw [r0, t4, if_pos ((ix_le (by omega) (by omega)).mpr ht)]
          rfl
        · rw [hc, if_neg (by decide), mz_in1x16, ix_wi_p h2, ix_b1]
          simp only [ix_b1, ix_10, ix_00, if_true, if_false, if_pos ix_k3, hi3]
          rw [h83, t4, if_pos ((ix_le (by omega) (by omega)).mpr ht), show (2 : Int32) = Int32.ofNat 2 from rfl, mz_becomes (by omega), h83, r1]
          rfl
      · refine jz_A0 (v := -4) j ?_ ?_
        · unfold F_X11_set_0 F_X11_changeEnd_0
          simp only [ix_cw, ix_wi_p h2, ix_b1, ix_10, ix_00, if_true, if_false]
          rw [r0, t4, if_neg (by rw [ix_le (by omega) (by omega)]; exact ht)]
          rfl
        · rw [hc, if_neg (by decide), mz_in1x16, ix_wi_p h2, ix_b1]
          simp only [ix_b1, ix_10, ix_00, if_true, if_false, if_pos ix_k3, hi3]
          rw [t4, if_neg (by rw [ix_le (by omega) (by omega)]; exact ht)]
    · refine jz_A0 (v := -1) j ?_ ?_
      · unfold F_X11_set_0
        simp only [ix_cw, ix_wi_n h2, ix_b1, ix_10, ix_00, if_true, if_false]
      · rw [hc, if_neg (by decide), mz_in1x16, ix_wi_n h2, ix_b1]
        simp only [ix_b1, ix_10, ix_00, if_true, if_false]
  by_cases ha1 : a = 1
  · subst ha1
    by_cases h2 : (0 : Int32) ≤ x ∧ x ≤ 9
    · have hb : sq_N x 9 := by obtain ⟨z, -, hz, rfl⟩ := ix_rng (a := 0) (b := 9) (by omega) (by omega) h2; exact ⟨z, hz, rfl⟩
      have h83 : (am_sI s 8 2 x).1 83 = s.1 83 := ix_sIn (by decide)
      have r2 : s.1 8 2 = s.1 83 5 := R.2.2.1
      refine ⟨s.1 8 2, am_sI s 8 2 x, am_sI (am_sI s 8 2 x) 83 5 x, ?_, ?_, jz_set1 j (by unfold sq_mp; omega) (sq_Ok_up ok (by omega) (fun h => hb) (fun h => by omega) (fun _ _ => by omega) (fun u hu => ⟨fun h => by omega, fun h => by omega, fun h => by omega, fun h => by omega, by omega⟩) (fun h => by omega))⟩
      · unfold F_X11_set_0 F_X11_changeMesh_0
        rw [if_neg (show ¬ (1 : Int32) = 0 by decide), if_pos rfl]
        simp only [ix_cw, ix_wi_p h2, ix_b1, ix_10, ix_00, if_true, if_false]
      · unfold F_X12_set_82
        rw [if_pos rfl, mz_in0x9, ix_wi_p h2, ix_b1]
        simp only [ix_b1, ix_10, ix_00, if_true, if_false]
        rw [show (5 : Int32) = Int32.ofNat 5 from rfl, mz_becomes (by omega), h83, r2]
        rfl
    · refine jz_A0 (v := -1) j ?_ ?_
      · unfold F_X11_set_0
        rw [if_neg (show ¬ (1 : Int32) = 0 by decide), if_pos rfl]
        simp only [ix_cw, ix_wi_n h2, ix_b1, ix_10, ix_00, if_true, if_false]
      · unfold F_X12_set_82
        rw [if_pos rfl, mz_in0x9, ix_wi_n h2, ix_b1]
        simp only [ix_b1, ix_10, ix_00, if_true, if_false]
  · refine jz_A0 (v := -1) j ?_ ?_
    · unfold F_X11_set_0
      rw [if_neg ha0, if_neg ha1]
    · unfold F_X12_set_82
      rw [if_neg ha1, if_neg ha0]
