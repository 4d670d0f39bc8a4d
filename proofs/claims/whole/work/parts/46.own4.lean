/-! LAYER 2: anew, voiceOf agree (written by wip/whole/l2/gen46.py) -/
def sq_z : Nat → Nat → (Nat → Int32) → (Nat → Int32)
  | 0, _, m => m
  | l + 1, v, m => sq_z l (v + 1) (upd m (24 + 5 * v + 4) 0)
theorem sq_z_n : ∀ (l v : Nat) (m : Nat → Int32) {j : Nat}, (∀ u, u < 6 → j ≠ 24 + 5 * u + 4) → v + l ≤ 6 → sq_z l v m j = m j := by
  intro l
  induction l with
  | zero => intro v m j _ _; rfl
  | succ l ih =>
    intro v m j h hl
    rw [sq_z, ih (v + 1) _ h (by omega)]
    exact ix_upn (h v (by omega))
theorem sq_z_z : ∀ (l v : Nat) (m : Nat → Int32), v + l ≤ 6 → ∀ u, u < 6 → ((v ≤ u ∧ u < v + l) ∨ m (24 + 5 * u + 4) = 0) → sq_z l v m (24 + 5 * u + 4) = 0 := by
  intro l
  induction l with
  | zero => intro v m _ u hu h; rcases h with h | h; · omega
            · exact h
  | succ l ih =>
    intro v m hl u hu h
    rw [sq_z]
    refine ih (v + 1) _ (by omega) u hu ?_
    by_cases hv : u = v
    · subst hv; exact Or.inr ix_ups
    · rw [ix_upn (by omega)]
      rcases h with h | h
      · exact Or.inl (by omega)
      · exact Or.inr h
theorem mz_anewL : ∀ (l v f : Nat) (s : am_S), sq_cn (s.1 83) ≤ 6 → s.1 83 0 = Int32.ofNat (sq_cn (s.1 83)) → v + l = sq_cn (s.1 83) → l < f → ∃ s', F_X12_anew_82_b9 f (Int32.ofNat v) s = some (s.1 83 3, s') ∧ s'.1 83 = upd (sq_z l v (s.1 83)) 3 0 ∧ ix_Fr (fun q => q == 83) s s' := by
  intro l
  induction l with
  | zero =>
    intro v f s hc h0 hl hf
    obtain ⟨f, rfl⟩ : ∃ g, f = g + 1 := ⟨f - 1, by omega⟩
    have e0 : s.1 83 (0 : Int32).toNatClampNeg = Int32.ofNat (sq_cn (s.1 83)) := h0
    refine ⟨am_sI s 83 3 0, ?_, by rw [ix_sIf]; rfl, ix_Fr.I (by rfl)⟩
    rw [F_X12_anew_82_b9, if_pos ix_k0, e0, if_pos ((ix_le (by omega) (by omega)).mpr (by omega)), show (3 : Int32) = Int32.ofNat 3 from rfl, mz_becomes (by omega)]
    rfl
  | succ l ih =>
    intro v f s hc h0 hl hf
    obtain ⟨f, rfl⟩ : ∃ g, f = g + 1 := ⟨f - 1, by omega⟩
    have e0 : s.1 83 (0 : Int32).toNatClampNeg = Int32.ofNat (sq_cn (s.1 83)) := h0
    have ea : F_X12_at (Int32.ofNat v) 4 s = some (Int32.ofNat (24 + 5 * v + 4), s) := mz_at (w := 4)
    have e1 : (am_sI s 83 (24 + 5 * v + 4) 0).1 83 = upd (s.1 83) (24 + 5 * v + 4) 0 := ix_sIf
    have ec : sq_cn ((am_sI s 83 (24 + 5 * v + 4) 0).1 83) = sq_cn (s.1 83) := by rw [e1]; unfold sq_cn; rw [ix_upn (by omega)]
    obtain ⟨s', i1, i2, i3⟩ := ih (v + 1) f (am_sI s 83 (24 + 5 * v + 4) 0) (by rw [ec]; exact hc) (by rw [ec, e1, ix_upn (by omega)]; exact h0) (by rw [ec]; omega) (by omega)
    refine ⟨s', ?_, by rw [i2, e1]; rfl, (ix_Fr.I (by rfl)).tr i3⟩
    rw [F_X12_anew_82_b9, if_pos ix_k0, e0, if_neg (by rw [ix_le (by omega) (by omega)]; omega), ea, ix_b1, if_pos ((ix_in (by omega)).mpr (by omega)), ix_nat (by omega), ix_b1, ix_addL, i1, e1, ix_upn (by omega)]
theorem ag_anew : jz_A F_X11_anew_0 F_X12_anew_82 := by
  intro s j
  obtain ⟨ok, R⟩ := j.1
  obtain ⟨hc, h0⟩ := sq_cn_ok ok
  obtain ⟨s1, e1⟩ : ∃ s1, s1 = am_sI (am_sI (am_sI s 8 0 0) 8 3 0) 8 6 0 := ⟨_, rfl⟩
  have h83 : s1.1 83 = s.1 83 := by rw [e1, ix_83 (by decide), ix_83 (by decide), ix_83 (by decide)]
  have hx : F_X11_anew_0 s = some (s.1 83 3, s1) := by
    unfold F_X11_anew_0
    rw [ix_b1, ix_b1, ix_b1, ← e1, R.1]
  have q1 : (am_sI s1 83 4 0).1 83 = upd (s.1 83) 4 0 := by rw [ix_sIf, h83]
  have ec : sq_cn (upd (s.1 83) 4 0) = sq_cn (s.1 83) := by unfold sq_cn; rw [ix_upn (by omega)]
  obtain ⟨s2, i1, i2, i3⟩ := mz_anewL (sq_cn (s.1 83)) 0 1000 (am_sI s1 83 4 0) (by rw [q1, ec]; exact hc) (by rw [q1, ec, ix_upn (by omega)]; exact h0) (by rw [q1, ec]; omega) (by omega)
  rw [q1] at i1 i2
  rw [ix_upn (by omega)] at i1
  have hy : F_X12_anew_82 s1 = some (s.1 83 3, s2) := by
    unfold F_X12_anew_82
    rw [if_pos ix_k4, ix_b1]
    exact i1
  have hn : ∀ q, ¬ sq_ch q → upd (sq_z (sq_cn (s.1 83)) 0 (upd (s.1 83) 4 0)) 3 0 q = s.1 83 q := fun q hq => by
    unfold sq_ch at hq
    rw [ix_upn (by omega), sq_z_n _ _ _ (by omega) (by omega), ix_upn (by omega)]
  have hpl : ∀ v, v < 6 → upd (sq_z (sq_cn (s.1 83)) 0 (upd (s.1 83) 4 0)) 3 0 (24 + 5 * v + 3) = s.1 83 (24 + 5 * v + 3) := fun v hv => by
    rw [ix_upn (by omega), sq_z_n _ _ _ (by omega) (by omega), ix_upn (by omega)]
  have hz : ∀ v, v < 6 → upd (sq_z (sq_cn (s.1 83)) 0 (upd (s.1 83) 4 0)) 3 0 (24 + 5 * v + 4) = 0 := fun v hv => by
    rw [ix_upn (by omega)]
    refine sq_z_z _ _ _ (by omega) v hv ?_
    by_cases h : v < sq_cn (s.1 83)
    · exact Or.inl ⟨by omega, by omega⟩
    · obtain ⟨c, c1, c2, c3⟩ := ok.1
      have hcn : sq_cn (s.1 83) = c := by unfold sq_cn; rw [c2, ix_nat (by omega)]
      rw [ix_upn (by omega)]
      exact Or.inr (c3 v hv (by omega))
  have ok2 : sq_Ok (upd (sq_z (sq_cn (s.1 83)) 0 (upd (s.1 83) 4 0)) 3 0) := by
    obtain ⟨-, ⟨t, e, t1, t2, t3, t4, t5⟩, -⟩ := id ok
    have okz : sq_Ok (sq_z (sq_cn (s.1 83)) 0 (upd (s.1 83) 4 0)) := by
      refine sq_Ok_pc ok (fun q hq => ?_) ?_ (fun v hv => ?_) (fun v hv => ⟨0, by omega, ?_⟩) (fun v hv _ => ?_)
      · have h := hn q hq
        unfold sq_ch at hq
        rwa [ix_upn (by omega)] at h
      · rw [sq_z_n _ _ _ (by omega) (by omega), ix_upn (by omega)]
      · have h := hpl v hv
        rw [ix_upn (by omega)] at h
        rw [h]; exact (ok.2.2.2.2.2.1 v hv).2.2.2.1
      · have h := hz v hv
        rwa [ix_upn (by omega)] at h
      · have h := hz v hv
        rwa [ix_upn (by omega)] at h
    refine sq_Ok_te (t := 0) (e := e) okz (fun q _ h3 => ix_upn h3) ix_ups ?_ (by omega) t2 t3
    rw [hn 2 (by unfold sq_ch; omega)]; exact t5
  have hcs : sq_cs (upd (sq_z (sq_cn (s.1 83)) 0 (upd (s.1 83) 4 0)) 3 0) = 0 := sq_cs_e (by omega) (fun v hv => by rw [hz v hv, sq_bits0 v hv]; rfl)
  obtain ⟨a0, a1, a2, a3, a4, a5, a6, a7, -⟩ := id R
  have R2 : sq_R s1.1 8 (upd (sq_z (sq_cn (s.1 83)) 0 (upd (s.1 83) 4 0)) 3 0) := by
    rw [e1]
    refine sq_R_own R (fun k hk => by rw [ix_sIn hk, ix_sIn hk, ix_sIn hk]) (fun q hq => hn q (by unfold sq_ch; unfold sq_ch at hq; omega)) hpl ?_ ?_ ?_ ?_ ?_ ?_ ?_ ?_
    · rw [ix_sIj (by omega), ix_sIj (by omega), ix_sIs, ix_ups]
    · rw [ix_sIj (by omega), ix_sIj (by omega), ix_sIj (by omega), hn 2 (by unfold sq_ch; omega)]; exact a1
    · rw [ix_sIj (by omega), ix_sIj (by omega), ix_sIj (by omega), hn 5 (by unfold sq_ch; omega)]; exact a2
    · rw [ix_sIj (by omega), ix_sIs, ix_upn (by omega), sq_z_n _ _ _ (by omega) (by omega), ix_ups]
    · rw [ix_sIj (by omega), ix_sIj (by omega), ix_sIj (by omega), hn 7 (by unfold sq_ch; omega)]; exact a4
    · rw [ix_sIj (by omega), ix_sIj (by omega), ix_sIj (by omega), hn 0 (by unfold sq_ch; omega)]; exact a5
    · rw [ix_sIs, hcs]; rfl
    · rw [ix_sIj (by omega), ix_sIj (by omega), ix_sIj (by omega), hn 6 (by unfold sq_ch; omega)]; exact a7
  have f2 : ix_Fr (fun q => q == 83) s1 s2 := (ix_Fr.I (by rfl)).tr i3
  refine ⟨_, s1, s2, hx, hy, jz_fin j R2 ?_ (f2.F2 (fun k q h => ?_)) (fun k h1 h2 => f2.1 k (by simp; omega)) i2 ok2⟩
  · rw [e1]; exact ((ix_F2.I (by rfl)).tr (ix_F2.I (by rfl))).tr (ix_F2.I (by rfl))
  · cases hk : (k == 83)
    · rfl
    · rw [beq_iff_eq.mp hk] at h; cases h
theorem ag_voiceOf {a w : Int32} : jz_A (F_X11_voiceOf_0 a w) (F_X12_voiceOf_82 a w) := by
  intro s j
  obtain ⟨ok, R⟩ := j.1
  by_cases h1 : 0 ≤ a ∧ a < s.1 83 0
  rotate_left
  · exact jz_A0 (v := -1) j (by simp only [F_X11_voiceOf_0, cz_has R, if_neg h1, ix_b1, ix_10, ix_00, if_true, if_false]) (by simp only [F_X12_voiceOf_82, mz_isVoice ok, if_neg h1, ix_b1, ix_10, ix_00, if_true, if_false])
  obtain ⟨v, hv, hv6, rfl⟩ := sq_isv ok h1
  have hiv : F_X12_isVoice_82 (Int32.ofNat v) s = some (1, s) := by
    have hi := mz_isVoice (x := Int32.ofNat v) (s := s) ok
    rw [if_pos h1] at hi
    exact hi
  have hnv : (Int32.ofNat v).toNatClampNeg = v := ix_nat (by omega)
  by_cases h2 : (0 : Int32) ≤ w ∧ w ≤ 8
  rotate_left
  · have hne : ∀ k, k ≤ 8 → ¬ w = Int32.ofNat k := fun k hk z => h2 (by rw [z]; exact ⟨Int32.zero_le_ofNat_of_lt (by omega), by rw [ix_leL (by omega) (by omega)]; exact hk⟩)
    refine jz_A0 (v := -1) j ?_ (by simp only [F_X12_voiceOf_82, hiv, mz_in0x8, ix_wi_n h2, ix_b1, ix_10, ix_00, if_true, if_false])
    unfold F_X11_voiceOf_0
    rw [cz_has R, if_pos h1, ix_b1, if_neg (show ¬ (1 : Int32) = 0 by decide)]
    rw [if_neg (show ¬ w = (0 : Int32) from hne 0 (by omega)), if_neg (show ¬ w = (1 : Int32) from hne 1 (by omega)), if_neg (show ¬ w = (2 : Int32) from hne 2 (by omega)), if_neg (show ¬ w = (3 : Int32) from hne 3 (by omega)), if_neg (show ¬ w = (4 : Int32) from hne 4 (by omega)), if_neg (show ¬ w = (5 : Int32) from hne 5 (by omega)), if_neg (show ¬ w = (6 : Int32) from hne 6 (by omega)), if_neg (show ¬ w = (7 : Int32) from hne 7 (by omega)), if_neg (show ¬ w = (8 : Int32) from hne 8 (by omega))]
  obtain ⟨n, -, hn, rfl⟩ := ix_rng (a := 0) (b := 8) (by omega) (by omega) h2
  have hM : F_X12_voiceOf_82 (Int32.ofNat v) (Int32.ofNat n) s = (if Int32.ofNat n = (5 : Int32) then (F_X12_drifts_82 (Int32.ofNat v) s).bind fun q8 => some (q8.1, q8.2) else if Int32.ofNat n = (6 : Int32) then (F_X12_price_82 (Int32.ofNat v) s).bind fun q11 => some (q11.1, q11.2) else if Int32.ofNat n = (7 : Int32) then (F_X12_isBursting_82 (Int32.ofNat v) s).bind fun q14 => (if q14.1 = (0 : Int32) then some ((0 : Int32), q14.2) else some ((1 : Int32), q14.2)) else if Int32.ofNat n = (8 : Int32) then (F_X12_will_82 (Int32.ofNat v) s).bind fun q18 => some (q18.1, q18.2) else (F_X12_its_82 (Int32.ofNat v) (Int32.ofNat n) s).bind fun q20 => some (q20.1, q20.2)) := by
    simp only [F_X12_voiceOf_82, hiv, mz_in0x8, ix_wi_p h2, ix_b1, ix_10, ix_00, if_true, if_false]
  have hX : F_X11_voiceOf_0 (Int32.ofNat v) (Int32.ofNat n) s = F_X11_voiceOf_0 (Int32.ofNat v) (Int32.ofNat n) s := rfl
  unfold F_X11_voiceOf_0 at hX
  rw [cz_has R, if_pos h1, ix_b1, if_neg (show ¬ (1 : Int32) = 0 by decide)] at hX
  have h9 : n = 0 ∨ n = 1 ∨ n = 2 ∨ n = 3 ∨ n = 4 ∨ n = 5 ∨ n = 6 ∨ n = 7 ∨ n = 8 := by omega
  have hcl : F_X11_voiceOf_0 (Int32.ofNat v) (Int32.ofNat n) s = F_X11_voiceOf_0 (Int32.ofNat v) (Int32.ofNat n) s := rfl
  have hiv6 : am_in (Int32.ofNat v) 6 := cz_inv hv6
  rcases h9 with rfl | rfl | rfl | rfl | rfl | rfl | rfl | rfl | rfl
  · refine jz_A0 (v := s.1 83 (24 + 5 * v + 0)) j ?_ ?_
    · clear hX hcl
      unfold F_X11_voiceOf_0
      rw [cz_has R, if_pos h1, ix_b1, if_neg (show ¬ (1 : Int32) = 0 by decide), if_pos (show Int32.ofNat 0 = (0 : Int32) from rfl)]
      rw [if_pos hiv6]
      simp only [hnv]
      rw [cz_kind R hv6]
      try rfl
    · rw [hM, if_neg (show ¬ Int32.ofNat 0 = (5 : Int32) by decide), if_neg (show ¬ Int32.ofNat 0 = (6 : Int32) by decide), if_neg (show ¬ Int32.ofNat 0 = (7 : Int32) by decide), if_neg (show ¬ Int32.ofNat 0 = (8 : Int32) by decide), mz_its (w := 0) hv6 (by omega), ix_b1]
  · refine jz_A0 (v := s.1 83 (24 + 5 * v + 1)) j ?_ ?_
    · clear hX hcl
      unfold F_X11_voiceOf_0
      rw [cz_has R, if_pos h1, ix_b1, if_neg (show ¬ (1 : Int32) = 0 by decide), if_neg (show ¬ Int32.ofNat 1 = (0 : Int32) by decide), if_pos (show Int32.ofNat 1 = (1 : Int32) from rfl)]
      rw [if_pos hiv6]
      simp only [hnv]
      rw [cz_pitch R hv6]
      try rfl
    · rw [hM, if_neg (show ¬ Int32.ofNat 1 = (5 : Int32) by decide), if_neg (show ¬ Int32.ofNat 1 = (6 : Int32) by decide), if_neg (show ¬ Int32.ofNat 1 = (7 : Int32) by decide), if_neg (show ¬ Int32.ofNat 1 = (8 : Int32) by decide), mz_its (w := 1) hv6 (by omega), ix_b1]
  · refine jz_A0 (v := s.1 83 (24 + 5 * v + 2)) j ?_ ?_
    · clear hX hcl
      unfold F_X11_voiceOf_0
      rw [cz_has R, if_pos h1, ix_b1, if_neg (show ¬ (1 : Int32) = 0 by decide), if_neg (show ¬ Int32.ofNat 2 = (0 : Int32) by decide), if_neg (show ¬ Int32.ofNat 2 = (1 : Int32) by decide), if_pos (show Int32.ofNat 2 = (2 : Int32) from rfl)]
      rw [if_pos hiv6]
      simp only [hnv]
      rw [cz_str R hv6]
      try rfl
    · rw [hM, if_neg (show ¬ Int32.ofNat 2 = (5 : Int32) by decide), if_neg (show ¬ Int32.ofNat 2 = (6 : Int32) by decide), if_neg (show ¬ Int32.ofNat 2 = (7 : Int32) by decide), if_neg (show ¬ Int32.ofNat 2 = (8 : Int32) by decide), mz_its (w := 2) hv6 (by omega), ix_b1]
  · refine jz_A0 (v := s.1 83 (24 + 5 * v + 3)) j ?_ ?_
    · clear hX hcl
      unfold F_X11_voiceOf_0
      rw [cz_has R, if_pos h1, ix_b1, if_neg (show ¬ (1 : Int32) = 0 by decide), if_neg (show ¬ Int32.ofNat 3 = (0 : Int32) by decide), if_neg (show ¬ Int32.ofNat 3 = (1 : Int32) by decide), if_neg (show ¬ Int32.ofNat 3 = (2 : Int32) by decide), if_pos (show Int32.ofNat 3 = (3 : Int32) from rfl)]
      rw [if_pos hiv6]
      simp only [hnv]
      rw [cz_place R hv6]
      try rfl
    · rw [hM, if_neg (show ¬ Int32.ofNat 3 = (5 : Int32) by decide), if_neg (show ¬ Int32.ofNat 3 = (6 : Int32) by decide), if_neg (show ¬ Int32.ofNat 3 = (7 : Int32) by decide), if_neg (show ¬ Int32.ofNat 3 = (8 : Int32) by decide), mz_its (w := 3) hv6 (by omega), ix_b1]
  · refine jz_A0 (v := s.1 83 (24 + 5 * v + 4)) j ?_ ?_
    · clear hX hcl
      unfold F_X11_voiceOf_0
      rw [cz_has R, if_pos h1, ix_b1, if_neg (show ¬ (1 : Int32) = 0 by decide), if_neg (show ¬ Int32.ofNat 4 = (0 : Int32) by decide), if_neg (show ¬ Int32.ofNat 4 = (1 : Int32) by decide), if_neg (show ¬ Int32.ofNat 4 = (2 : Int32) by decide), if_neg (show ¬ Int32.ofNat 4 = (3 : Int32) by decide), if_pos (show Int32.ofNat 4 = (4 : Int32) from rfl)]
      rw [cz_caught R ok hv6, ix_b1]
      obtain ⟨n, hn, en⟩ := (ok.2.2.2.2.2.1 v hv6).2.2.2.2
      have hn2 : n = 0 ∨ n = 1 := by omega
      rcases hn2 with rfl | rfl
      · rw [en]; rfl
      · rw [en]; rfl
    · rw [hM, if_neg (show ¬ Int32.ofNat 4 = (5 : Int32) by decide), if_neg (show ¬ Int32.ofNat 4 = (6 : Int32) by decide), if_neg (show ¬ Int32.ofNat 4 = (7 : Int32) by decide), if_neg (show ¬ Int32.ofNat 4 = (8 : Int32) by decide), mz_its (w := 4) hv6 (by omega), ix_b1]
  · refine jz_A0 (v := sq_dr (s.1 83 (24 + 5 * v)) (s.1 83 (24 + 5 * v + 2)) (s.1 83 3)) j ?_ ?_
    · clear hX hcl
      unfold F_X11_voiceOf_0
      rw [cz_has R, if_pos h1, ix_b1, if_neg (show ¬ (1 : Int32) = 0 by decide), if_neg (show ¬ Int32.ofNat 5 = (0 : Int32) by decide), if_neg (show ¬ Int32.ofNat 5 = (1 : Int32) by decide), if_neg (show ¬ Int32.ofNat 5 = (2 : Int32) by decide), if_neg (show ¬ Int32.ofNat 5 = (3 : Int32) by decide), if_neg (show ¬ Int32.ofNat 5 = (4 : Int32) by decide), if_pos (show Int32.ofNat 5 = (5 : Int32) from rfl)]
      rw [cz_drift R ok hv6, ix_b1]
    · rw [hM, if_pos (show Int32.ofNat 5 = (5 : Int32) from rfl), mz_drifts hv6, ix_b1]
  · obtain ⟨k, hk, ek, hth⟩ := cz_thing R ok hv6
    refine jz_A0 (v := sq_pr (s.1 83 (24 + 5 * v)) (s.1 83 (24 + 5 * v + 2))) j ?_ ?_
    · clear hX hcl
      unfold F_X11_voiceOf_0
      rw [cz_has R, if_pos h1, ix_b1, if_neg (show ¬ (1 : Int32) = 0 by decide), if_neg (show ¬ Int32.ofNat 6 = (0 : Int32) by decide), if_neg (show ¬ Int32.ofNat 6 = (1 : Int32) by decide), if_neg (show ¬ Int32.ofNat 6 = (2 : Int32) by decide), if_neg (show ¬ Int32.ofNat 6 = (3 : Int32) by decide), if_neg (show ¬ Int32.ofNat 6 = (4 : Int32) by decide), if_neg (show ¬ Int32.ofNat 6 = (5 : Int32) by decide), if_pos (show Int32.ofNat 6 = (6 : Int32) from rfl)]
      rw [hth, ix_b1, if_pos hiv6]
      simp only [hnv]
      have hN := (ok.2.2.2.2.2.1 v hv6).2.2.1
      rw [cz_str R hv6, ek]
      rcases sq_six hk with rfl | rfl | rfl | rfl | rfl | rfl
      · rw [if_pos rfl, cz_p0, ix_b1]; rfl
      · rw [if_neg (by decide), if_pos rfl, cz_p1, ix_b1]; rfl
      · rw [if_neg (by decide), if_neg (by decide), if_pos rfl, cz_p2 hN, ix_b1]; rfl
      · rw [if_neg (by decide), if_neg (by decide), if_neg (by decide), if_pos rfl, cz_p3 hN, ix_b1]; rfl
      · rw [if_neg (by decide), if_neg (by decide), if_neg (by decide), if_neg (by decide), if_pos rfl, cz_p4, ix_b1]; rfl
      · rw [if_neg (by decide), if_neg (by decide), if_neg (by decide), if_neg (by decide), if_neg (by decide), cz_p5, ix_b1]; rfl
    · rw [hM, if_neg (show ¬ Int32.ofNat 6 = (5 : Int32) by decide), if_pos (show Int32.ofNat 6 = (6 : Int32) from rfl), mz_price hv6, ix_b1]
  · refine jz_A0 (v := if s.1 83 (24 + 5 * v) = 4 ∧ ¬ s.1 83 (24 + 5 * v + 2) < 8 then 1 else 0) j ?_ ?_
    · clear hX hcl
      unfold F_X11_voiceOf_0
      rw [cz_has R, if_pos h1, ix_b1, if_neg (show ¬ (1 : Int32) = 0 by decide), if_neg (show ¬ Int32.ofNat 7 = (0 : Int32) by decide), if_neg (show ¬ Int32.ofNat 7 = (1 : Int32) by decide), if_neg (show ¬ Int32.ofNat 7 = (2 : Int32) by decide), if_neg (show ¬ Int32.ofNat 7 = (3 : Int32) by decide), if_neg (show ¬ Int32.ofNat 7 = (4 : Int32) by decide), if_neg (show ¬ Int32.ofNat 7 = (5 : Int32) by decide), if_neg (show ¬ Int32.ofNat 7 = (6 : Int32) by decide), if_pos (show Int32.ofNat 7 = (7 : Int32) from rfl)]
      rw [cz_bursts R ok hv6, ix_b1]
      split <;> rfl
    · rw [hM, if_neg (show ¬ Int32.ofNat 7 = (5 : Int32) by decide), if_neg (show ¬ Int32.ofNat 7 = (6 : Int32) by decide), if_pos (show Int32.ofNat 7 = (7 : Int32) from rfl), mz_bursts hv6, ix_b1]
      split <;> rfl
  · obtain ⟨s1, w1, w2⟩ := cz_will hv6 R ok
    have h83 : s1.1 83 = s.1 83 := w2.1 83 rfl
    obtain ⟨s2, u1, u2⟩ := mz_will (s := s1) hv6 (by rw [h83]; exact ok.2.2.2.2.2.2.2)
    rw [h83] at u1
    have hiv1 : F_X12_isVoice_82 (Int32.ofNat v) s1 = some (1, s1) := by
      have hi := mz_isVoice (x := Int32.ofNat v) (s := s1) (by rw [h83]; exact ok)
      rw [h83, if_pos h1] at hi
      exact hi
    refine ⟨sq_will (s.1 83) v, s1, s2, ?_, ?_, ?_⟩
    · clear hX hcl
      unfold F_X11_voiceOf_0
      rw [cz_has R, if_pos h1, ix_b1, if_neg (show ¬ (1 : Int32) = 0 by decide), if_neg (show ¬ Int32.ofNat 8 = (0 : Int32) by decide), if_neg (show ¬ Int32.ofNat 8 = (1 : Int32) by decide), if_neg (show ¬ Int32.ofNat 8 = (2 : Int32) by decide), if_neg (show ¬ Int32.ofNat 8 = (3 : Int32) by decide), if_neg (show ¬ Int32.ofNat 8 = (4 : Int32) by decide), if_neg (show ¬ Int32.ofNat 8 = (5 : Int32) by decide), if_neg (show ¬ Int32.ofNat 8 = (6 : Int32) by decide), if_neg (show ¬ Int32.ofNat 8 = (7 : Int32) by decide), if_pos (show Int32.ofNat 8 = (8 : Int32) from rfl)]
      rw [w1, ix_b1]
    · simp only [F_X12_voiceOf_82, hiv1, mz_in0x8, ix_wi_p h2, ix_b1, ix_10, ix_00, if_true, if_false]
      rw [if_neg (show ¬ Int32.ofNat 8 = (5 : Int32) by decide), if_neg (show ¬ Int32.ofNat 8 = (6 : Int32) by decide), if_neg (show ¬ Int32.ofNat 8 = (7 : Int32) by decide), if_pos (show Int32.ofNat 8 = (8 : Int32) from rfl), u1, ix_b1]
    · refine jz_fin j (sq_R_fr (fun k h1 h2 => w2.1 k (by simp; omega)) R) (w2.F2 (fun k q h => ?_)) (u2.F2 (fun k q h => ?_)) (fun k h1 h2 => u2.1 k (by simp; omega)) ((u2.1 83 rfl).trans h83) ok
      · cases hk : (k == 23)
        · rfl
        · rw [beq_iff_eq.mp hk] at h; cases h
      · cases hk : (k == 86)
        · rfl
        · rw [beq_iff_eq.mp hk] at h; cases h
