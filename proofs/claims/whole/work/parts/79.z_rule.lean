/-! LAYER 2: class and model read alike: one RULE (written by hand) -/
theorem sq_CP_fr {T : Nat → Int32} {n c i : Nat} {s t : am_S} (f : ∀ z, z < 44 → t.1 z = s.1 z) (h : sq_CP T n c i s) : sq_CP T n c i t := by
  obtain ⟨⟨a0, a1, a2, a3⟩, h2, h3, h4, h5, h6, h7⟩ := h
  exact ⟨⟨by rw [f 40 (by omega)]; exact a0, by rw [f 41 (by omega)]; exact a1, by rw [f 40 (by omega)]; exact a2, fun q hq => by rw [f 42 (by omega), f 43 (by omega)]; exact a3 q hq⟩, h2, h3, h4, h5, h6, by rw [f 40 (by omega)]; exact h7⟩
def sq_yMR (z j : Nat) : Bool := (z == 82 && (j == 23 || j == 24 || j == 25 || j == 27 || j == 28)) || (z == 83 && (j == 1 || decide (72 ≤ j)))
def sq_yCR (z j : Nat) : Bool := (z == 40 && j == 5) || (44 ≤ z && z < 50)
theorem sq_pM_R {k : Nat} {s t : am_S} (f : ix_F2 (sq_yM k) s t) : ix_F2 sq_yMR s t := f.wd (fun z j hk => by unfold sq_yMR at hk; unfold sq_yM; simp at hk ⊢; omega)
theorem sq_pC_R {s t : am_S} (f : ix_F2 sq_yC s t) : ix_F2 sq_yCR s t := f.wd (fun z j hk => by unfold sq_yCR at hk; unfold sq_yC; simp at hk ⊢; omega)
theorem sq_kd_W {T : Nat → Int32} {p e k : Nat} (hk : k < 6) (h : sq_is T p e k = true) : sq_kd T p e = Int32.ofNat k := by
  have hb : ∀ k', k' < 18 → sq_is T p e k' = decide (k' = k) := by
    intro k' hk'
    by_cases he : k' = k
    · rw [he, h, decide_eq_true rfl]
    · rw [decide_eq_false he]
      cases hh : sq_is T p e k' with
      | false => rfl
      | true => exact absurd (sq_is_inj hk' (by omega) hh h) he
  unfold sq_kd
  simp only [hb 0 (by omega), hb 1 (by omega), hb 2 (by omega), hb 3 (by omega), hb 4 (by omega), hb 5 (by omega)]
  clear hb h
  revert hk
  revert k
  decide +kernel
theorem sq_kd_no {T : Nat → Int32} {p e : Nat} (h : ∀ k, k < 6 → ¬ sq_is T p e k = true) : sq_kd T p e = -1 := by
  unfold sq_kd
  rw [if_neg (h 0 (by omega)), if_neg (h 1 (by omega)), if_neg (h 2 (by omega)), if_neg (h 3 (by omega)), if_neg (h 4 (by omega)), if_neg (h 5 (by omega))]
theorem sq_win {x b : Int32} {m : Nat} (hm : m < 1000) (h : 0 ≤ x - b ∧ x - b ≤ Int32.ofNat m) : ∃ d, d ≤ m ∧ x - b = Int32.ofNat d ∧ x = Int32.ofNat d + b := by
  obtain ⟨d, d1, d2⟩ := ix_of2 (by omega) h.1 h.2
  exact ⟨d, d1, d2, by rw [← d2, Int32.sub_add_cancel]⟩
theorem sq_kindW : ∀ k, k < 6 → Int32.ofNat k + 10030 = sq_WW k ∧ sq_WW k - 10030 = Int32.ofNat k ∧ (0 : Int32) ≤ Int32.ofNat k ∧ Int32.ofNat k ≤ 5 ∧ ¬ Int32.ofNat k < 0 := by decide +kernel
theorem sq_deedW : ∀ d, d < 3 → Int32.ofNat d + 10040 = sq_WW (11 + d) ∧ sq_WW (11 + d) - 10040 = Int32.ofNat d ∧ (0 : Int32) ≤ Int32.ofNat d ∧ Int32.ofNat d ≤ 2 ∧ ¬ Int32.ofNat d < 0 := by decide +kernel
/-! the model's rule in the failed mode -/
theorem mz_r133F {x y v : Int32} {s : am_S} (h28 : s.1 82 28 = 1) : F_X12_rule_82_b133 x y v s = some s := by
  rw [F_X12_rule_82_b133, mz_wF h28, ix_b1, h28, if_neg (show ¬ (1 : Int32) = 0 by decide)]
theorem mz_r104F {x y v : Int32} {s : am_S} (h28 : s.1 82 28 = 1) : F_X12_rule_82_b104 x y v s = some s := by
  rw [F_X12_rule_82_b104, mz_wF h28, ix_b1, h28, if_neg (show ¬ (1 : Int32) = 0 by decide), F_X12_rule_82_b132, mz_r133F h28]
theorem mz_r91F {x v : Int32} {s : am_S} (h28 : s.1 82 28 = 1) : F_X12_rule_82_b91 x v s = some s := by
  rw [F_X12_rule_82_b91, mz_r104F h28, mz_r104F h28]
  split <;> rfl
theorem mz_r49F {T : Nat → Int32} {n i : Nat} {x : Int32} {s : am_S} (h : sq_M T n i s) (h28 : s.1 82 28 = 1) : F_X12_rule_82_b49 x s = some s := by
  obtain ⟨w, x1, -, -, -, x2, x3, x4⟩ := mz_wordF h h28
  rw [F_X12_rule_82_b49, x1, ix_b1]
  dsimp only
  rw [if_neg x2, if_neg x3, if_neg x4, mz_r91F h28]
theorem mz_r26F {T : Nat → Int32} {n i : Nat} {x : Int32} {s : am_S} (h : sq_M T n i s) (h28 : s.1 82 28 = 1) (v : Int32) : F_X12_rule_82_b26 x v s = some s := by
  obtain ⟨w, x1, -, -, x2, -⟩ := mz_wordF h h28
  rw [F_X12_rule_82_b26, mz_wF h28, ix_b1, x1, ix_b1]
  dsimp only
  rw [if_neg x2, mz_r49F h h28]
/-! what a rule writes -/
theorem mz_r133 {T : Nat → Int32} {n i r k : Nat} {x y : Int32} {s : am_S} (h : sq_M T n i s) (h28 : s.1 82 28 = 0) (h27 : s.1 82 27 = Int32.ofNat k) (hr : s.1 83 1 = Int32.ofNat r) (hr8 : r < 8) : ∃ s', F_X12_rule_82_b133 x y 1 s = some s' ∧ sq_M T n (i + 1) s' ∧ s'.1 82 28 = 0 ∧ s'.1 82 27 = Int32.ofNat k ∧ (∀ j, s'.1 83 j = if j = 1 then Int32.ofNat (r + 1) else if j = 72 + 3 * r + 2 then Int32.ofNat k else if j = 72 + 3 * r + 1 then y else if j = 72 + 3 * r then x else s.1 83 j) ∧ ix_F2 sq_yMR s s' := by
  obtain ⟨s1, a1, a2, a3, -, a5, a6, a7⟩ := mz_go (k := 0) h h28
  have i1 : am_in (1 : Int32) 296 := (ix_inL (by omega)).mpr (by omega)
  have n1 : (1 : Int32).toNatClampNeg = 1 := rfl
  have hv : (72 : Int32) + (3 : Int32) * Int32.ofNat r = Int32.ofNat (72 + 3 * r) := by rw [ix_Lmul, ix_Ladd]
  have hr1 : s1.1 83 1 = Int32.ofNat r := by rw [a6]; exact hr
  have v0 : Int32.ofNat (72 + 3 * r) + 0 = Int32.ofNat (72 + 3 * r) := ix_addL _ 0
  have v1 : Int32.ofNat (72 + 3 * r) + 1 = Int32.ofNat (72 + 3 * r + 1) := ix_addL _ 1
  have v2 : Int32.ofNat (72 + 3 * r) + 2 = Int32.ofNat (72 + 3 * r + 2) := ix_addL _ 2
  have k0 : (Int32.ofNat (72 + 3 * r)).toNatClampNeg = 72 + 3 * r := ix_nat (by omega)
  have k1 : (Int32.ofNat (72 + 3 * r + 1)).toNatClampNeg = 72 + 3 * r + 1 := ix_nat (by omega)
  have k2 : (Int32.ofNat (72 + 3 * r + 2)).toNatClampNeg = 72 + 3 * r + 2 := ix_nat (by omega)
  have j0 : am_in (Int32.ofNat (72 + 3 * r)) 296 := (ix_in (by omega)).mpr (by omega)
  have j1 : am_in (Int32.ofNat (72 + 3 * r + 1)) 296 := (ix_in (by omega)).mpr (by omega)
  have j2 : am_in (Int32.ofNat (72 + 3 * r + 2)) 296 := (ix_in (by omega)).mpr (by omega)
  obtain ⟨s2, e2⟩ : ∃ s2, s2 = am_sI s1 83 (72 + 3 * r) x := ⟨_, rfl⟩
  obtain ⟨s3, e3⟩ : ∃ s3, s3 = am_sI s2 83 (72 + 3 * r + 1) y := ⟨_, rfl⟩
  obtain ⟨s4, e4⟩ : ∃ s4, s4 = am_sI s3 83 (72 + 3 * r + 2) (s3.1 82 27) := ⟨_, rfl⟩
  obtain ⟨s5, e5⟩ : ∃ s5, s5 = am_sI s4 83 1 (Int32.ofNat (r + 1)) := ⟨_, rfl⟩
  have q27 : s3.1 82 27 = Int32.ofNat k := by rw [e3, ix_sIn (by decide), e2, ix_sIn (by decide), a5]; exact h27
  have q1 : s4.1 83 1 = Int32.ofNat r := by
    rw [e4, ix_sI1, if_neg (by omega), e3, ix_sI1, if_neg (by omega), e2, ix_sI1, if_neg (by omega)]; exact hr1
  refine ⟨s5, ?_, ?_, ?_, ?_, fun j => ?_, ?_⟩
  · rw [F_X12_rule_82_b133, a1, ix_b1, a3, if_pos (show (0 : Int32) = 0 from rfl), if_pos i1]
    simp only [n1]
    rw [hr1, hv, ix_b1, v0, v1, v2, if_pos j0, k0, ix_b1, ← e2, if_pos j1, k1, ix_b1, ← e3, if_pos j2, k2, ix_b1, ← e4, if_pos i1, if_pos i1, q1, ix_addL, ix_b1, ← e5]
  · rw [e5, e4, e3, e2]
    exact sq_MX_w (sq_MX_w (sq_MX_w (sq_MX_w a2 ⟨by omega, fun _ => by omega⟩) ⟨by omega, fun _ => by omega⟩) ⟨by omega, fun _ => by omega⟩) ⟨by omega, fun _ => by omega⟩
  · rw [e5, ix_sIn (by decide), e4, ix_sIn (by decide), e3, ix_sIn (by decide), e2, ix_sIn (by decide)]; exact a3
  · rw [e5, ix_sIn (by decide), e4, ix_sIn (by decide)]; exact q27
  · rw [e5, ix_sI1, e4, ix_sI1, q27, e3, ix_sI1, e2, ix_sI1, a6]
  · rw [e5, e4, e3, e2]
    exact (((((sq_pM_R a7)).tr (ix_F2.I (by unfold sq_yMR; simp))).tr (ix_F2.I (by unfold sq_yMR; simp; omega))).tr (ix_F2.I (by unfold sq_yMR; simp; omega))).tr (ix_F2.I (by rfl))
theorem cz_addRule {r : Nat} {x y v : Int32} {s : am_S} (h0 : s.1 44 0 = Int32.ofNat r) (hr : r < 8) : ∃ s', F_X7_addRule_44 x y v s = some s' ∧ (∀ q, s'.1 45 q = if q = r then x else s.1 45 q) ∧ (∀ q, s'.1 46 q = if q = r then y else s.1 46 q) ∧ (∀ q, s'.1 47 q = if q = r then v else s.1 47 q) ∧ (∀ q, s'.1 48 q = if q = r then s.1 44 1 else s.1 48 q) ∧ s'.1 44 0 = Int32.ofNat (r + 1) ∧ s'.1 44 1 = s.1 44 1 ∧ s'.1 49 = s.1 49 ∧ (∀ z, z < 44 → s'.1 z = s.1 z) ∧ ix_F2 sq_yCR s s' := by
  have hi : am_in (Int32.ofNat r) 8 := (ix_in (by omega)).mpr hr
  have hn : (Int32.ofNat r).toNatClampNeg = r := ix_nat (by omega)
  obtain ⟨s1, e1⟩ : ∃ s1, s1 = am_sI s 45 r x := ⟨_, rfl⟩
  obtain ⟨s2, e2⟩ : ∃ s2, s2 = am_sI s1 46 r y := ⟨_, rfl⟩
  obtain ⟨s3, e3⟩ : ∃ s3, s3 = am_sI s2 47 r v := ⟨_, rfl⟩
  obtain ⟨s4, e4⟩ : ∃ s4, s4 = am_sI s3 48 r (s3.1 44 1) := ⟨_, rfl⟩
  obtain ⟨s5, e5⟩ : ∃ s5, s5 = am_sI s4 44 0 (Int32.ofNat (r + 1)) := ⟨_, rfl⟩
  have g1 : s1.1 44 = s.1 44 := by rw [e1]; exact ix_sIn (by decide)
  have g2 : s2.1 44 = s.1 44 := by rw [e2, ix_sIn (by decide)]; exact g1
  have g3 : s3.1 44 = s.1 44 := by rw [e3, ix_sIn (by decide)]; exact g2
  have g4 : s4.1 44 = s.1 44 := by rw [e4, ix_sIn (by decide)]; exact g3
  refine ⟨s5, ?_, fun q => ?_, fun q => ?_, fun q => ?_, fun q => ?_, ?_, ?_, ?_, fun z hz => ?_, ?_⟩
  · rw [F_X7_addRule_44, h0, if_neg (by rw [ix_Lle (by omega) (by omega)]; omega), if_pos hi, hn, ix_b1, ← e1, g1, h0, if_pos hi, hn, ix_b1, ← e2, g2, h0, if_pos hi, hn, ix_b1, ← e3, g3, h0, if_pos hi, hn, ix_b1, ← g3, ← e4, g4, h0, ix_addL, ix_b1, ← e5]
  · rw [e5, ix_sIn (by decide), e4, ix_sIn (by decide), e3, ix_sIn (by decide), e2, ix_sIn (by decide), e1, ix_sI1]
  · rw [e5, ix_sIn (by decide), e4, ix_sIn (by decide), e3, ix_sIn (by decide), e2, ix_sI1, e1, ix_sIn (by decide)]
  · rw [e5, ix_sIn (by decide), e4, ix_sIn (by decide), e3, ix_sI1, e2, ix_sIn (by decide), e1, ix_sIn (by decide)]
  · rw [e5, ix_sIn (by decide), e4, ix_sI1, g3, e3, ix_sIn (by decide), e2, ix_sIn (by decide), e1, ix_sIn (by decide)]
  · rw [e5, ix_sIs]
  · rw [e5, ix_sIj (by decide), g4]
  · rw [e5, ix_sIn (by decide), e4, ix_sIn (by decide), e3, ix_sIn (by decide), e2, ix_sIn (by decide), e1, ix_sIn (by decide)]
  · rw [e5, ix_sIn (by omega), e4, ix_sIn (by omega), e3, ix_sIn (by omega), e2, ix_sIn (by omega), e1, ix_sIn (by omega)]
  · rw [e5, e4, e3, e2, e1]
    exact ((((ix_F2.I (by unfold sq_yCR; simp)).tr (ix_F2.I (by unfold sq_yCR; simp))).tr (ix_F2.I (by unfold sq_yCR; simp))).tr (ix_F2.I (by unfold sq_yCR; simp))).tr (ix_F2.I (by rfl))
/-- what a RULE's DO and ";" lead to -/
theorem sim_tail {T : Nat → Int32} {n c i k r : Nat} {x v : Int32} {sc sm : am_S} (h : sq_RL T n c i k sc sm) (h0 : sc.1 44 0 = Int32.ofNat r) (hr : sm.1 83 1 = Int32.ofNat r) (hr8 : r < 8) :
    (∃ d sc1 sc2 sm', d ≤ 2 ∧ F_X6_readRule_40_b70 x v sc = some (1, sc2) ∧ F_X12_rule_82_b49 x sm = some sm' ∧ i + 2 ≤ c ∧ ix_F2 sq_p5 sc sc1 ∧ sq_CP T n c (i + 2) sc1 ∧ F_X7_addRule_44 x (Int32.ofNat d) v sc1 = some sc2 ∧ sq_M T n (i + 2) sm' ∧ sm'.1 82 28 = 0 ∧ sm'.1 82 27 = Int32.ofNat k ∧ (∀ j, sm'.1 83 j = if j = 1 then Int32.ofNat (r + 1) else if j = 72 + 3 * r + 2 then Int32.ofNat k else if j = 72 + 3 * r + 1 then Int32.ofNat d else if j = 72 + 3 * r then x else sm.1 83 j) ∧ ix_F2 sq_yMR sm sm') ∨
    (∃ i' sc' sm', F_X6_readRule_40_b70 x v sc = some (0, sc') ∧ F_X12_rule_82_b49 x sm = some sm' ∧ sq_FL T n c i' sc' sm' ∧ ix_F2 sq_p5 sc sc' ∧ ix_F2 sq_yMR sm sm') := by
  obtain ⟨hC, hM, h28, h27, h44, hcd⟩ := id h
  obtain ⟨hT, hp, ht, he, hn⟩ := sq_M_T hM
  obtain ⟨ic, c200, clt⟩ := sq_CP_i hC
  have z1 : ¬ (1 : Int32) = 0 := by decide
  have z0 : (0 : Int32) = 0 := rfl
  have x11 := sq_wx11 hM ht
  have x12 := sq_wx12 hM ht
  have x13 := sq_wx13 hM ht
  rw [F_X6_readRule_40_b70, cz_cur hC, ix_b1]
  dsimp only
  rw [ix_cw, ix_b1]
  dsimp only
  by_cases hd : ∃ d, d < 3 ∧ sq_is T (sq_tp T n i) (sq_te T n (sq_tp T n i)) (11 + d) = true
  rotate_left
  · -- no DO
    right
    obtain ⟨m1, b1, b2, b3, b4⟩ := mz_no (k := k) hM h28
    have hn1 : ∀ d, d < 3 → ¬ sq_is T (sq_tp T n i) (sq_te T n (sq_tp T n i)) (11 + d) = true := fun d d1 d2 => hd ⟨d, d1, d2⟩
    have hw : ¬ (0 ≤ sq_cc T n (sq_tp T n i) - 10040 ∧ sq_cc T n (sq_tp T n i) - 10040 ≤ 2) := by
      intro z
      obtain ⟨d, d1, d2, d3⟩ := sq_win (m := 2) (by omega) z
      rw [(sq_deedW d (by omega)).1] at d3
      exact hn1 d (by omega) ((sq_cc_W hp hT (by omega)).mp d3)
    refine ⟨i, sc, m1, ?_, ?_, ⟨hC, b2, b3⟩, ix_F2.rf, sq_pM_R b4⟩
    · rw [ix_wi_n hw, if_pos z0]
    · rw [F_X12_rule_82_b49, mz_wordx hM ht, ix_b1]
      dsimp only
      rw [if_neg (fun z => hn1 0 (by omega) (x11.mp z).2), if_neg (fun z => hn1 1 (by omega) (x12.mp z).2), if_neg (fun z => hn1 2 (by omega) (x13.mp z).2), F_X12_rule_82_b91, if_pos (show (-1 : Int32) < 0 by decide), F_X12_rule_82_b104, b1, ix_b1, b3, if_neg z1, F_X12_rule_82_b132, mz_r133F b3]
  obtain ⟨d, d1, d2⟩ := hd
  have hlt := (sq_is_1 (k := 11 + d) (by omega) he hT d2).1
  have hcc : sq_cc T n (sq_tp T n i) = sq_WW (11 + d) := (sq_cc_W hp hT (by omega)).mpr d2
  obtain ⟨w1, w2, w3, w4, w5⟩ := sq_deedW d d1
  have hM0 : F_X12_rule_82_b49 x sm = F_X12_rule_82_b104 x (Int32.ofNat d) 1 sm := by
    have h91 : F_X12_rule_82_b49 x sm = F_X12_rule_82_b91 x (Int32.ofNat d) sm := by
      have hne : ∀ d', d' < 3 → d' ≠ d → ¬ sq_is T (sq_tp T n i) (sq_te T n (sq_tp T n i)) (11 + d') = true := fun d' a b z => b (by have := sq_is_inj (by omega) (by omega) z d2; omega)
      rw [F_X12_rule_82_b49, mz_wordx hM ht, ix_b1]
      dsimp only
      have hd3 : d = 0 ∨ d = 1 ∨ d = 2 := by omega
      rcases hd3 with rfl | rfl | rfl
      · rw [if_pos (x11.mpr ⟨h28, d2⟩)]; rfl
      · rw [if_neg (fun z => hne 0 (by omega) (by omega) (x11.mp z).2), if_pos (x12.mpr ⟨h28, d2⟩)]; rfl
      · rw [if_neg (fun z => hne 0 (by omega) (by omega) (x11.mp z).2), if_neg (fun z => hne 1 (by omega) (by omega) (x12.mp z).2), if_pos (x13.mpr ⟨h28, d2⟩)]; rfl
    rw [h91, F_X12_rule_82_b91, if_neg w5]
  obtain ⟨m1, b1, b2, b3, -, b5, b6, b7⟩ := mz_go (k := k) hM h28
  obtain ⟨u1, u2, u3⟩ := sq_CP_up hC hlt
  obtain ⟨c1, ec1⟩ : ∃ c1, c1 = am_sI sc 40 5 (Int32.ofNat (i + 1)) := ⟨_, rfl⟩
  rw [← ec1] at u1 u2 u3
  obtain ⟨-, hp1, -, -, -⟩ := sq_M_T b2
  have hsemi := sq_cc_S (b := 59) (p := sq_tp T n (i + 1)) hT (Or.inr (Or.inr (Or.inl rfl)))
  have e59 : sq_sg 59 = 10051 := by decide
  rw [e59] at hsemi
  have hM2 : F_X12_rule_82_b49 x sm = if (if sq_tp T n (i + 1) < n then T (sq_tp T n (i + 1)) else -1) = 59 then F_X12_rule_82_b133 x (Int32.ofNat d) 1 m1 else F_X12_rule_82_b132 x (Int32.ofNat d) m1 := by
    rw [hM0, F_X12_rule_82_b104, b1, ix_b1, b3, if_pos z0, b2.2.2.1, mz_byteAt b2 hp1, ix_b1]
  rw [hM2, hcc, w2, ix_wi_p ⟨w3, w4⟩, if_neg z1, ix_b1, u1]
  rcases cz_goPast (x := 10051) u2 (by decide) with ⟨r1, r2, sc4, r3, r4, r5⟩ | ⟨r1, r3⟩
  rotate_left
  · -- no ";"
    right
    have hb : ¬ (if sq_tp T n (i + 1) < n then T (sq_tp T n (i + 1)) else -1) = 59 := by
      by_cases hpn : sq_tp T n (i + 1) < n
      · rw [if_pos hpn]; exact fun z => r1 (hsemi.mpr ⟨hpn, z⟩)
      · rw [if_neg hpn]; decide
    obtain ⟨m4, q1, q2, q3, q4⟩ := mz_no (k := k) b2 b3
    rw [r3, ix_b1, if_neg hb, F_X12_rule_82_b132, F_X12_rule_82_b133, q1, ix_b1, q3, if_neg z1]
    dsimp only
    rw [if_pos z0]
    exact ⟨i + 1, c1, m4, rfl, rfl, ⟨u2, q2, q3⟩, u3, (sq_pM_R b7).tr (sq_pM_R q4)⟩
  left
  have r5' : ix_F2 sq_p5 c1 sc4 := r5
  have hcl := hsemi.mp r1
  have hi4 := (sq_CP_i r4).1
  obtain ⟨m4, q1, q2, q3, q4, q5, q6⟩ := mz_r133 (x := x) (y := Int32.ofNat d) (k := k) (r := r) b2 b3 (b5.trans h27) (by rw [b6]; exact hr) hr8
  have g0 : sc4.1 44 0 = Int32.ofNat r := (r5'.1 44 0 (by rfl)).trans ((u3.1 44 0 (by rfl)).trans h0)
  obtain ⟨sc5, t1, -⟩ := cz_addRule (x := x) (y := Int32.ofNat d) (v := v) g0 hr8
  refine ⟨d, sc4, sc5, m4, by omega, ?_, ?_, hi4, u3.tr r5', r4, t1, q2, q3, q4, fun j => by rw [q5, b6], (sq_pM_R b7).tr q6⟩
  · rw [r3, ix_b1]
    dsimp only
    rw [if_neg z1, t1, ix_b1]
  · rw [if_pos hcl.1, if_pos hcl.2, q1]
