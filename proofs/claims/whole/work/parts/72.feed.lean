/-! LAYER 2: feed agrees (written by hand) -/
theorem sq_sh64 : ∀ k, k < 8 → ((8 : Int32) * Int32.ofNat k).toInt64 &&& 63 = Int64.ofNat (8 * k) ∧ ((8 : Int32) * Int32.ofNat k).toInt64.toUInt64 &&& Int64.toUInt64 63 = UInt64.ofNat (8 * k) := by decide +kernel
theorem sq_sm64 : ∀ k, k < 8 → ((Int64.ofNat (8 * k)).toBitVec.smod 64).toNat = 8 * k ∧ (UInt64.ofNat (8 * k)).toBitVec.toNat % 64 = 8 * k ∧ ((UInt64.ofNat (8 * k)).toBitVec % 64).toNat = 8 * k := by decide +kernel
theorem sq_255 : ∀ i, i < 64 → (255#64).getLsbD i = decide (i < 8) ∧ (255#32).getLsbD i = decide (i < 8) := by decide +kernel
theorem sq_byte (x : Int64) (k : Nat) (hk : k < 8) : (am_lushr x ((8 : Int32) * Int32.ofNat k)).toInt32 &&& (255 : Int32) = sq_by x k := by
  obtain ⟨e1, e2⟩ := sq_sh64 k hk
  obtain ⟨m1, m2, m3⟩ := sq_sm64 k hk
  unfold sq_by am_lushr
  rw [e1, e2]
  apply Int32.toBitVec_inj.mp
  apply BitVec.eq_of_getLsbD_eq
  intro i hi
  have h1 : (255 : Int32).toBitVec = 255#32 := rfl
  have h2 : (255 : Int64).toBitVec = 255#64 := rfl
  rw [Int32.toBitVec_and, Int64.toBitVec_toInt32, Int64.toBitVec_toInt32, Int64.toBitVec_and, h1, h2, BitVec.signExtend_eq_setWidth_of_le _ (by decide), BitVec.signExtend_eq_setWidth_of_le _ (by decide), BitVec.getLsbD_and, BitVec.getLsbD_setWidth, BitVec.getLsbD_setWidth, BitVec.getLsbD_and, (sq_255 i (by omega)).1, (sq_255 i (by omega)).2]
  by_cases h8 : i < 8
  · rw [decide_eq_true h8, Bool.and_true, Bool.and_true]
    congr 1
    rw [Int64.toBitVec_shiftRight, UInt64.toBitVec_toInt64, UInt64.toBitVec_shiftRight]
    rw [BitVec.sshiftRight_eq', m1, BitVec.getLsbD_sshiftRight, if_pos (by omega)]
    simp only [BitVec.ushiftRight_eq', m3, BitVec.getLsbD_ushiftRight]
    have : ¬ 64 ≤ i := by omega
    simp [this]
  · rw [decide_eq_false h8, Bool.and_false, Bool.and_false, Bool.and_false]
theorem sq_by_N (x : Int64) (k : Nat) : sq_N (sq_by x k) 255 := by
  unfold sq_by
  generalize x >>> (((8 : Int32) * Int32.ofNat k).toInt64 &&& 63) = y
  have h : (y &&& 255).toInt32 = Int32.ofNat ((y &&& 255).toBitVec.toNat) := by
    apply Int32.toBitVec_inj.mp
    rw [Int64.toBitVec_toInt32, BitVec.signExtend_eq_setWidth_of_le _ (by decide)]
    rfl
  refine ⟨(y &&& 255).toBitVec.toNat, ?_, h⟩
  rw [Int64.toBitVec_and, BitVec.toNat_and]
  exact Nat.and_le_right
theorem cz_takeL {x : Int64} {c n : Nat} (hc : c ≤ 8) (hn : n + c ≤ 200) : ∀ (l k f : Nat) (s : am_S), k + l = c → l < f → s.1 40 0 = Int32.ofNat (n + k) → (∀ i, i < k → s.1 41 (n + i) = sq_by x i) → ∃ s', F_X6_take_40_b22 f x (Int32.ofNat c) (Int32.ofNat k) s = some (Int32.ofNat (n + c), s') ∧ s'.1 40 0 = Int32.ofNat (n + c) ∧ (∀ i, i < c → s'.1 41 (n + i) = sq_by x i) ∧ (∀ i, i < n → s'.1 41 i = s.1 41 i) ∧ ix_F2 (fun k j => k == 41 || (k == 40 && j == 0)) s s' := by
  intro l
  induction l with
  | zero =>
    intro k f s hl hf h0 h1
    obtain ⟨f, rfl⟩ : ∃ g, f = g + 1 := ⟨f - 1, by omega⟩
    have hk : k = c := by omega
    subst hk
    refine ⟨s, ?_, h0, h1, fun _ _ => rfl, ix_F2.rf⟩
    rw [F_X6_take_40_b22, if_pos (by rw [ix_le (by omega) (by omega)]; omega), h0]
  | succ l ih =>
    intro k f s hl hf h0 h1
    obtain ⟨f, rfl⟩ : ∃ g, f = g + 1 := ⟨f - 1, by omega⟩
    have hi : am_in (Int32.ofNat (n + k)) 200 := (ix_in (by omega)).mpr (by omega)
    have hnn : (Int32.ofNat (n + k)).toNatClampNeg = n + k := ix_nat (by omega)
    obtain ⟨t, et⟩ : ∃ t, t = am_sI (am_sI s 41 (n + k) (sq_by x k)) 40 0 (Int32.ofNat (n + k + 1)) := ⟨_, rfl⟩
    have t41 : ∀ q, t.1 41 q = if q = n + k then sq_by x k else s.1 41 q := fun q => by rw [et, ix_sIn (by decide), ix_sI1]
    obtain ⟨s', i1, i2, i3, i4, i5⟩ := ih (k + 1) f t (by omega) (by omega) (by rw [et, ix_sIs]; rfl) (fun i hi => by
      rw [t41]
      by_cases hik : i = k
      · rw [hik, if_pos rfl]
      · rw [if_neg (by omega)]; exact h1 i (by omega))
    refine ⟨s', ?_, i2, i3, fun i hi => by rw [i4 i hi, t41, if_neg (by omega)], ?_⟩
    · rw [F_X6_take_40_b22, if_neg (by rw [ix_le (by omega) (by omega)]; omega), h0, if_pos hi]
      simp only [hnn]
      rw [sq_byte x k (by omega), ix_b1, ix_sIn (by decide), h0, ix_addL, ix_b1, ← et, ix_addL, i1]
    · have f1 : ix_F2 (fun k j => k == 41 || (k == 40 && j == 0)) s t := by rw [et]; exact (ix_F2.I (by rfl)).tr (ix_F2.I (by rfl))
      exact f1.tr i5
theorem mz_feedL {x : Int64} {c n : Nat} (hc : c ≤ 8) (hn : n + c ≤ 200) : ∀ (l k f : Nat) (s : am_S), k + l = c → l < f → s.1 82 22 = Int32.ofNat (n + k) → (∀ i, i < k → s.1 92 (n + i) = sq_by x i) → ∃ s', F_X12_feed_82_b32 f x (Int32.ofNat c) (Int32.ofNat k) s = some (Int32.ofNat (n + c), s') ∧ s'.1 82 22 = Int32.ofNat (n + c) ∧ (∀ i, i < c → s'.1 92 (n + i) = sq_by x i) ∧ (∀ i, i < n → s'.1 92 i = s.1 92 i) ∧ ix_F2 (fun k j => k == 92 || (k == 82 && j == 22)) s s' := by
  intro l
  induction l with
  | zero =>
    intro k f s hl hf h0 h1
    obtain ⟨f, rfl⟩ : ∃ g, f = g + 1 := ⟨f - 1, by omega⟩
    have hk : k = c := by omega
    subst hk
    refine ⟨s, ?_, h0, h1, fun _ _ => rfl, ix_F2.rf⟩
    rw [F_X12_feed_82_b32, if_pos (by rw [ix_le (by omega) (by omega)]; omega), h0]
  | succ l ih =>
    intro k f s hl hf h0 h1
    obtain ⟨f, rfl⟩ : ∃ g, f = g + 1 := ⟨f - 1, by omega⟩
    have hi : am_in (Int32.ofNat (n + k)) 200 := (ix_in (by omega)).mpr (by omega)
    have hnn : (Int32.ofNat (n + k)).toNatClampNeg = n + k := ix_nat (by omega)
    obtain ⟨t, et⟩ : ∃ t, t = am_sI (am_sI s 92 (n + k) (sq_by x k)) 82 22 (Int32.ofNat (n + k + 1)) := ⟨_, rfl⟩
    have t41 : ∀ q, t.1 92 q = if q = n + k then sq_by x k else s.1 92 q := fun q => by rw [et, ix_sIn (by decide), ix_sI1]
    obtain ⟨s', i1, i2, i3, i4, i5⟩ := ih (k + 1) f t (by omega) (by omega) (by rw [et, ix_sIs]; rfl) (fun i hi => by
      rw [t41]
      by_cases hik : i = k
      · rw [hik, if_pos rfl]
      · rw [if_neg (by omega)]; exact h1 i (by omega))
    refine ⟨s', ?_, i2, i3, fun i hi => by rw [i4 i hi, t41, if_neg (by omega)], ?_⟩
    · rw [F_X12_feed_82_b32, if_neg (by rw [ix_le (by omega) (by omega)]; omega), h0, if_pos hi]
      simp only [hnn]
      show (((some (am_sI s 92 (n + k) (sq_by x k))).bind fun s3 => ((some (am_sI s3 82 22 ((s3.1 82 22) + (1 : Int32)))).bind fun s5 => ((F_X12_feed_82_b32 f) x (Int32.ofNat c) (Int32.ofNat k + (1 : Int32)) s5)))) = _
      rw [ix_b1, ix_sIn (by decide), h0, ix_addL, ix_b1, ← et, ix_addL, i1]
    · have f1 : ix_F2 (fun k j => k == 92 || (k == 82 && j == 22)) s t := by rw [et]; exact (ix_F2.I (by rfl)).tr (ix_F2.I (by rfl))
      exact f1.tr i5
def sq_pST (k j : Nat) : Bool := sq_pS k j || k == 41 || k == 92 || (k == 40 && j == 0) || (k == 82 && j == 22)
theorem jz_keepT {s t : am_S} (j : jz_J s) (f : ix_F2 sq_pST s t) (js : jz_S t) (jT : jz_T t) : jz_J t := by
  obtain ⟨-, jK, -, jR, jH, jL, jG, jN⟩ := j
  refine ⟨js, jz_K_fr (fun k q h => f.1 k q ?_) jK, jT, jz_R_fr (fun k q h => f.1 k q ?_) jR, jz_H_fr (fun k q h => f.1 k q ?_) f.2 jH, jz_L_fr (fun k q h => f.1 k q ?_) jL, jz_G_fr (fun k q h => f.1 k q ?_) jG, jz_N_fr (fun k q h => f.1 k q ?_) jN⟩
  · rcases h with h | rfl | ⟨rfl, rfl⟩ | ⟨rfl, rfl⟩
    · unfold sq_pST; rw [sq_pS_a h.1 h.2]; simp; omega
    all_goals rfl
  · rcases h with h | rfl | ⟨rfl, rfl⟩ | ⟨rfl, rfl⟩
    · unfold sq_pST; rw [sq_pS_b h.1 h.2]; simp; omega
    all_goals rfl
  · rcases h with rfl | rfl | rfl | rfl | rfl
    all_goals rfl
  · rcases h with rfl | rfl | rfl | rfl | rfl | rfl
    all_goals rfl
  · rcases h with rfl | rfl | ⟨rfl, rfl⟩ | ⟨rfl, rfl⟩
    all_goals rfl
  · rcases h with rfl | rfl
    all_goals rfl
theorem ag_feed {x : Int64} {a : Int32} : jz_A (F_X11_feed_0 x a) (F_X12_feed_82 x a) := by
  intro s j
  obtain ⟨ok, R⟩ := j.1
  obtain ⟨n, hn, t1, t2, t3⟩ := j.2.2.1
  have z1 : ¬ (1 : Int32) = 0 := by decide
  by_cases h1 : (1 : Int32) ≤ a ∧ a ≤ 8
  rotate_left
  · exact jz_A0 (v := -1) j (by simp only [F_X11_feed_0, ix_cw, ix_wi_n h1, ix_b1, ix_10, ix_00, if_true, if_false]) (by simp only [F_X12_feed_82, mz_in1x8, ix_wi_n h1, ix_b1, ix_10, ix_00, if_true, if_false])
  obtain ⟨c, hc1, hc, rfl⟩ := ix_rng (a := 1) (b := 8) (by omega) (by omega) h1
  by_cases h2 : n + c ≤ 200
  rotate_left
  · refine jz_A0 (v := -2) j ?_ ?_
    · rw [F_X11_feed_0, ix_cw, ix_b1, ix_wi_p h1]
      dsimp only
      rw [if_neg z1, F_X6_take_40, if_neg (ix_nn (by omega)), t1, ix_add, if_neg (by rw [ix_leL (by omega) (by omega)]; exact h2), ix_b1]
    · rw [F_X12_feed_82, mz_in1x8, ix_b1, ix_wi_p h1]
      dsimp only
      rw [if_neg z1, t2, ix_add, if_neg (by rw [ix_leL (by omega) (by omega)]; exact h2)]
  obtain ⟨s1, c1, c2, c3, c4, c5⟩ := cz_takeL (x := x) hc h2 c 0 1000 s (by omega) (by omega) t1 (fun i hi => by omega)
  have g1 : ∀ z, z ≠ 40 → z ≠ 41 → s1.1 z = s.1 z := fun z h1 h2 => funext fun q => c5.1 z q (by simp; omega)
  obtain ⟨s2, d1, d2, d3, d4, d5⟩ := mz_feedL (x := x) hc h2 c 0 1000 s1 (by omega) (by omega) (by rw [g1 82 (by decide) (by decide)]; exact t2) (fun i hi => by omega)
  have g2 : ∀ z, z ≠ 82 → z ≠ 92 → s2.1 z = s1.1 z := fun z h1 h2 => funext fun q => d5.1 z q (by simp; omega)
  have h83 : s2.1 83 = s.1 83 := by rw [g2 83 (by decide) (by decide), g1 83 (by decide) (by decide)]
  refine ⟨Int32.ofNat (n + c), s1, s2, ?_, ?_, jz_keepT j ((c5.wd (fun k j hk => by unfold sq_pST sq_pS at hk; simp at hk ⊢; omega)).tr (d5.wd (fun k j hk => by unfold sq_pST sq_pS at hk; simp at hk ⊢; omega))) ⟨by rw [h83]; exact ok, by rw [h83]; exact sq_R_fr (fun k h1 h2 => by rw [g2 k (by omega) (by omega), g1 k (by omega) (by omega)]) R⟩ ⟨n + c, h2, by rw [g2 40 (by decide) (by decide)]; exact c2, d2, fun i hi => ?_⟩⟩
  · have c1' : F_X6_take_40_b22 1000 x (Int32.ofNat c) 0 s = _ := c1
    rw [F_X11_feed_0, ix_cw, ix_b1, ix_wi_p h1]
    dsimp only
    rw [if_neg z1, F_X6_take_40, if_neg (ix_nn (by omega)), t1, ix_add, if_pos (by rw [ix_leL (by omega) (by omega)]; exact h2), c1', ix_b1]
  · have d1' : F_X12_feed_82_b32 1000 x (Int32.ofNat c) 0 s1 = _ := d1
    rw [F_X12_feed_82, mz_in1x8, ix_b1, ix_wi_p h1]
    dsimp only
    rw [if_neg z1, g1 82 (by decide) (by decide), t2, ix_add, if_pos (by rw [ix_leL (by omega) (by omega)]; exact h2), d1']
  · rw [g2 41 (by decide) (by decide)]
    by_cases hin : i < n
    · obtain ⟨a1, a2⟩ := t3 i hin
      rw [c4 i hin, d4 i hin, g1 92 (by decide) (by decide)]
      exact ⟨a1, a2⟩
    · obtain ⟨w, rfl⟩ : ∃ w, i = n + w := ⟨i - n, by omega⟩
      rw [c3 w (by omega), d3 w (by omega)]
      exact ⟨rfl, sq_by_N x w⟩
