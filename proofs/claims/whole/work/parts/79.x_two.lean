/-! LAYER 2: class and model read alike: one comparison (written by hand) -/
def sq_RL (T : Nat → Int32) (n c i k : Nat) (sc sm : am_S) : Prop := sq_CP T n c i sc ∧ sq_M T n i sm ∧ sm.1 82 28 = 0 ∧ sm.1 82 27 = Int32.ofNat k ∧ sc.1 44 1 = Int32.ofNat k ∧ ∀ q, q < k → sc.1 49 q = sq_cm (sm.1 83 (96 + q))
def sq_FL (T : Nat → Int32) (n c i : Nat) (sc sm : am_S) : Prop := sq_CP T n c i sc ∧ sq_M T n i sm ∧ sm.1 82 28 = 1
/-- the codes from k on to k' lead from u truths to u' -/
def sq_sx (m : Nat → Int32) (k k' u u' : Nat) : Prop := k ≤ k' ∧ ∀ m' : Nat → Int32, (∀ q, q < k' → m' (96 + q) = m (96 + q)) → ∀ l, sq_ck m' l k' u' 0 → sq_ck m' (l + (k' - k)) k u 0
theorem sq_sx_tr {m m' : Nat → Int32} {k1 k2 k3 a b c : Nat} (h1 : sq_sx m k1 k2 a b) (h2 : sq_sx m' k2 k3 b c) (hm : ∀ q, q < k2 → m' (96 + q) = m (96 + q)) : sq_sx m' k1 k3 a c := by
  obtain ⟨h1a, h1b⟩ := h1
  obtain ⟨h2a, h2b⟩ := h2
  refine ⟨by omega, fun x hx l hl => ?_⟩
  have g1 := h2b x hx l hl
  have g2 := h1b x (fun q hq => (hx q (by omega)).trans (hm q hq)) _ g1
  rw [show l + (k3 - k1) = l + (k3 - k2) + (k2 - k1) by omega]
  exact g2
/-- how a reading ends: good, or with the fault at a token -/
def sq_OU (T : Nat → Int32) (n c pd i k u u' : Nat) (sc sm : am_S) (rC : Option (Int32 × am_S)) (rM : Option am_S) : Prop :=
  (∃ i' k' sc' sm', rC = some (1, sc') ∧ rM = some sm' ∧ sq_RL T n c i' k' sc' sm' ∧ i ≤ i' ∧ k' + pd ≤ i' ∧ ix_F2 sq_yC sc sc' ∧ ix_F2 (sq_yM k) sm sm' ∧ sq_sx (sm'.1 83) k k' u u') ∨
  (∃ i' sc' sm', rC = some (0, sc') ∧ rM = some sm' ∧ sq_FL T n c i' sc' sm' ∧ ix_F2 sq_yC sc sc' ∧ ix_F2 (sq_yM k) sm sm')
def sq_p5 (z j : Nat) : Bool := z == 40 && j == 5
theorem sq_p5C {s t : am_S} (f : ix_F2 sq_p5 s t) : ix_F2 sq_yC s t := f.wd (fun z j hk => by unfold sq_yC at hk; unfold sq_p5; simp at hk ⊢; omega)
theorem sq_CP_up {T : Nat → Int32} {n c i : Nat} {s : am_S} (h : sq_CP T n c i s) (hi : sq_tp T n i < n) : am_sI s 40 5 (s.1 40 5 + 1) = am_sI s 40 5 (Int32.ofNat (i + 1)) ∧ sq_CP T n c (i + 1) (am_sI s 40 5 (Int32.ofNat (i + 1))) ∧ ix_F2 sq_p5 s (am_sI s 40 5 (Int32.ofNat (i + 1))) :=
  ⟨by rw [h.2.2.2.2.2.2, ix_addL], sq_CP_5 h hi, ix_F2.I (by rfl)⟩
def sq_sc (b : Int32) : Int32 := if b = 60 then -11 else if b = 61 then -12 else -13
theorem mz_cmpb {b : Int32} {s : am_S} : F_X12_comparison_82_b48 b 1 s = ((F_X12_wants_82 1 s).bind fun q1 => (F_X12_valueHere_82 q1).bind fun q3 => F_X12_comparison_82_b80 (sq_sc b) q3) := by
  unfold F_X12_comparison_82_b48 sq_sc
  congr 1; funext q1; congr 1; funext q3
  split
  · rfl
  · split <;> rfl
theorem mz_cmp0 {b : Int32} {s : am_S} : F_X12_comparison_82_b48 b 0 s = ((F_X12_wants_82 0 s).bind fun q1 => (F_X12_valueHere_82 q1).bind fun q3 => F_X12_comparison_82_b80 (sq_sc b) q3) := by
  unfold F_X12_comparison_82_b48 sq_sc
  congr 1; funext q1; congr 1; funext q3
  split
  · rfl
  · split <;> rfl
theorem mz_b80F {x : Int32} {s : am_S} (h28 : s.1 82 28 = 1) : F_X12_comparison_82_b80 x s = some s := by
  rw [F_X12_comparison_82_b80, mz_writesF h28, ix_b1]
theorem sq_cmp_sx {m : Nat → Int32} {k u : Nat} (h0 : -6 < m (96 + k) ∧ m (96 + k) < 10000) (h1 : -6 < m (96 + (k + 1)) ∧ m (96 + (k + 1)) < 10000) (h2 : m (96 + (k + 1 + 1)) = -11 ∨ m (96 + (k + 1 + 1)) = -12 ∨ m (96 + (k + 1 + 1)) = -13) (hu : u < 9) : sq_sx m k (k + 1 + 1 + 1) u (u + 1) := by
  refine ⟨by omega, fun m' hm l hl => ?_⟩
  rw [show l + (k + 1 + 1 + 1 - k) = l + 1 + 1 + 1 by omega, sq_ck]
  left
  rw [hm k (by omega)]
  refine ⟨h0, by omega, ?_⟩
  rw [sq_ck]
  left
  rw [hm (k + 1) (by omega)]
  refine ⟨h1, by omega, ?_⟩
  rw [sq_ck]
  right; right; right
  rw [hm (k + 1 + 1) (by omega)]
  exact ⟨h2, rfl, hu, hl⟩
theorem sim_cmp {T : Nat → Int32} {n c pd i k u : Nat} {sc sm : am_S} (h : sq_RL T n c i k sc sm) (hk : k + pd ≤ i) (hu : u < 9) : sq_OU T n c pd i k u (u + 1) sc sm (F_X6_readComparison_40 sc) (F_X12_comparison_82 sm) := by
  obtain ⟨hC, hM, h28, h27, h44, hcd⟩ := h
  obtain ⟨hT, hp, ht, he, hn⟩ := sq_M_T hM
  obtain ⟨ci, c2, clt⟩ := sq_CP_i hC
  have z1 : ¬ (1 : Int32) = 0 := by decide
  have z0 : (0 : Int32) = 0 := rfl
  rcases mz_valueHere hM h28 h27 (fun hh => by have := clt hh; omega) with ⟨hv, hlt, m1, y0, a1, a2, a3, a4, a5, a6, a7, a8⟩ | ⟨hv, m1, a1, a2, a3, a4⟩
  rotate_left
  · -- no value at first
    right
    unfold sq_vl at hv
    refine ⟨i, sc, m1, ?_, ?_, ⟨hC, a2, a3⟩, ix_F2.rf, a4⟩
    · rw [F_X6_readComparison_40, cz_cur hC, ix_b1]
      dsimp only
      rw [cz_isValue, if_neg hv, ix_b1]
      dsimp only
      rw [if_pos z0]
    · rw [F_X12_comparison_82, a1, ix_b1, a3, if_neg z1, F_X12_comparison_82_b23, if_neg (show ¬ (-1 : Int32) = 60 by decide), if_neg (show ¬ (-1 : Int32) = 61 by decide), if_neg (show ¬ (-1 : Int32) = 62 by decide), mz_cmp0, mz_wF a3, ix_b1, mz_valueF a2 a3, ix_b1, mz_b80F a3]
  unfold sq_vl at hv
  have ilt := clt hlt
  obtain ⟨u1, u2, u3⟩ := sq_CP_up hC hlt
  obtain ⟨c1, ec1⟩ : ∃ c1, c1 = am_sI sc 40 5 (Int32.ofNat (i + 1)) := ⟨_, rfl⟩
  rw [← ec1] at u1 u2 u3
  obtain ⟨hT1, hp1, ht1, he1, -⟩ := sq_M_T a2
  have hb := mz_byteAt (q := sq_tp T n (i + 1)) a2 hp1
  obtain ⟨ci1, -, clt1⟩ := sq_CP_i u2
  obtain ⟨b, eb⟩ : ∃ b, b = (if sq_tp T n (i + 1) < n then T (sq_tp T n (i + 1)) else -1) := ⟨_, rfl⟩
  have hM0 : F_X12_comparison_82 sm = F_X12_comparison_82_b23 b m1 := by
    rw [F_X12_comparison_82, a1, ix_b1, a3, if_pos z0, a2.2.2.1, hb, ix_b1, ← eb]
  have hC0 : F_X6_readComparison_40 sc = ((F_X11_isWithin (sq_cc T n (sq_tp T n (i + 1))) (10010 : Int32) (10012 : Int32) c1).bind fun q10 => (if q10.1 = (0 : Int32) then (some ((0 : Int32), q10.2)) else ((some (am_sI q10.2 40 5 ((q10.2.1 40 5) + (1 : Int32)))).bind fun s13 => ((F_X6_current_40 s13).bind fun q15 => ((F_X6_isValue q15.1 q15.2).bind fun q17 => (if q17.1 = (0 : Int32) then (some ((0 : Int32), q17.2)) else ((some (am_sI q17.2 40 5 ((q17.2.1 40 5) + (1 : Int32)))).bind fun s20 => ((F_X7_addCode_44 (sq_cc T n (sq_tp T n i)) s20).bind fun q22 => ((F_X7_addCode_44 q15.1 q22).bind fun q24 => ((F_X7_addCode_44 (sq_cc T n (sq_tp T n (i + 1))) q24).bind fun q26 => (some ((1 : Int32), q26)))))))))))) := by
    rw [F_X6_readComparison_40, cz_cur hC, ix_b1]
    dsimp only
    rw [cz_isValue, if_pos hv, ix_b1]
    dsimp only
    rw [if_neg z1, ix_b1, u1, cz_cur u2, ix_b1]
  rw [hM0, hC0, ix_cw, ix_b1]
  dsimp only
  have hsg := sq_sgn (n := n) (p := sq_tp T n (i + 1)) hT
  by_cases hs : sq_tp T n (i + 1) < n ∧ (T (sq_tp T n (i + 1)) = 60 ∨ T (sq_tp T n (i + 1)) = 61 ∨ T (sq_tp T n (i + 1)) = 62)
  rotate_left
  · -- no sign
    right
    obtain ⟨m2, b1, b2, b3, b4⟩ := mz_no (k := k) a2 a3
    have hnb : ¬ b = 60 ∧ ¬ b = 61 ∧ ¬ b = 62 := by
      by_cases hpn : sq_tp T n (i + 1) < n
      · rw [if_pos hpn] at eb
        rw [eb]
        exact ⟨fun z => hs ⟨hpn, Or.inl z⟩, fun z => hs ⟨hpn, Or.inr (Or.inl z)⟩, fun z => hs ⟨hpn, Or.inr (Or.inr z)⟩⟩
      · rw [if_neg hpn] at eb
        rw [eb]; decide
    refine ⟨i + 1, c1, m2, ?_, ?_, ⟨u2, b2, b3⟩, sq_p5C u3, a8.tr b4⟩
    · rw [ix_wi_n (fun z => hs (hsg.mp z)), if_pos z0]
    · rw [F_X12_comparison_82_b23, if_neg hnb.1, if_neg hnb.2.1, if_neg hnb.2.2, mz_cmp0, b1, ix_b1, mz_valueF b2 b3, ix_b1, mz_b80F b3]
  have ilt1 := clt1 hs.1
  rw [if_pos hs.1] at eb
  have hM1 : F_X12_comparison_82_b23 b m1 = F_X12_comparison_82_b48 b 1 m1 := by
    rw [F_X12_comparison_82_b23]
    rcases hs.2 with z | z | z
    · rw [if_pos (eb.trans z), F_X12_comparison_82_b43]
    · rw [if_neg (by rw [eb, z]; decide), if_pos (eb.trans z), F_X12_comparison_82_b43]
    · rw [if_neg (by rw [eb, z]; decide), if_neg (by rw [eb, z]; decide), if_pos (eb.trans z), F_X12_comparison_82_b43]
  have hscc : sq_cm (sq_sc b) = sq_cc T n (sq_tp T n (i + 1)) ∧ (sq_sc b = -11 ∨ sq_sc b = -12 ∨ sq_sc b = -13) := by
    rcases hs.2 with z | z | z
    · rw [(sq_cc_S (b := 60) hT (Or.inr (Or.inr (Or.inr (Or.inl rfl))))).mpr ⟨hs.1, z⟩, eb, z]; decide
    · rw [(sq_cc_S (b := 61) hT (Or.inr (Or.inr (Or.inr (Or.inr (Or.inl rfl)))))).mpr ⟨hs.1, z⟩, eb, z]; decide
    · rw [(sq_cc_S (b := 62) hT (Or.inr (Or.inr (Or.inr (Or.inr (Or.inr rfl)))))).mpr ⟨hs.1, z⟩, eb, z]; decide
  obtain ⟨m2, b1, b2, b3, -, b5, b6, b7⟩ := mz_go (k := k) a2 a3
  obtain ⟨v1, v2, v3⟩ := sq_CP_up u2 hs.1
  obtain ⟨c3, ec3⟩ : ∃ c3, c3 = am_sI c1 40 5 (Int32.ofNat (i + 1 + 1)) := ⟨_, rfl⟩
  rw [← ec3] at v1 v2 v3
  obtain ⟨ci2, -, clt2⟩ := sq_CP_i v2
  rw [hM1, mz_cmpb, b1, ix_b1, ix_wi_p (hsg.mpr hs), if_neg z1, ix_b1, v1, cz_cur v2, ix_b1]
  dsimp only
  rw [cz_isValue, ix_b1]
  dsimp only
  rcases mz_valueHere b2 b3 (b5.trans a4) (fun hh => by have := clt2 hh; omega) with ⟨hv2, hlt2, m3, y2, d1, d2, d3, d4, d5, d6, d7, d8⟩ | ⟨hv2, m3, d1, d2, d3, d4⟩
  rotate_left
  · right
    unfold sq_vl at hv2
    refine ⟨i + 1 + 1, c3, m3, ?_, ?_, ⟨v2, d2, d3⟩, sq_p5C (u3.tr v3), (a8.tr b7).tr (sq_pM_le (Nat.le_succ k) d4)⟩
    · rw [if_neg hv2, if_pos z0]
    · rw [d1, ix_b1, mz_b80F d3]
  left
  unfold sq_vl at hv2
  have ilt2 := clt2 hlt2
  obtain ⟨w1, w2, w3⟩ := sq_CP_up v2 hlt2
  obtain ⟨c4, ec4⟩ : ∃ c4, c4 = am_sI c3 40 5 (Int32.ofNat (i + 1 + 1 + 1)) := ⟨_, rfl⟩
  rw [← ec4] at w1 w2 w3
  have f4 := (u3.tr v3).tr w3
  have e44 : c4.1 44 1 = Int32.ofNat k := (f4.1 44 1 (by rfl)).trans h44
  have e49 : ∀ q, c4.1 49 q = sc.1 49 q := fun q => f4.1 49 q (by rfl)
  obtain ⟨c5, x1, x2, x3, x4, x5⟩ := cz_add (x := sq_cc T n (sq_tp T n i)) w2 e44 (by omega)
  obtain ⟨c6, y1, y2', y3, y4, y5⟩ := cz_add (x := sq_cc T n (sq_tp T n (i + 1 + 1))) x2 x3 (by omega)
  obtain ⟨c7, t1, t2, t3, t4, t5⟩ := cz_add (x := sq_cc T n (sq_tp T n (i + 1))) y2' y3 (by omega)
  obtain ⟨m4, g1, g2, g3, g4, g5, g6⟩ := mz_wri (x := sq_sc b) d2 d3 d4 (by omega)
  have hm0 : m4.1 83 (96 + k) = y0 := by rw [sq_pM_q g6 (by omega), sq_pM_q d8 (by omega), b6, a5]
  have hm1 : m4.1 83 (96 + (k + 1)) = y2 := by rw [sq_pM_q g6 (by omega), d5]
  have fm : ix_F2 (sq_yM k) sm m4 := ((a8.tr b7).tr (sq_pM_le (by omega) d8)).tr (sq_pM_le (by omega) g6)
  refine ⟨i + 1 + 1 + 1, k + 1 + 1 + 1, c7, m4, ?_, ?_, ⟨t2, g2, g3, g4, t3, fun q hq => ?_⟩, by omega, by omega, (((sq_p5C f4).tr x5).tr y5).tr t5, fm, sq_cmp_sx ?_ ?_ ?_ hu⟩
  · rw [if_pos hv2, if_neg z1, ix_b1, w1, x1, ix_b1, y1, ix_b1, t1, ix_b1]
  · rw [d1, ix_b1, F_X12_comparison_82_b80, g1, ix_b1]
  · rw [t4]
    by_cases q2 : q = k + 1 + 1
    · rw [if_pos q2, q2, g5, hscc.1]
    · rw [if_neg q2, y4]
      by_cases q1 : q = k + 1
      · rw [if_pos q1, q1, hm1, d6]
      · rw [if_neg q1, x4]
        by_cases q0 : q = k
        · rw [if_pos q0, q0, hm0, a6]
        · rw [if_neg q0, e49, hcd q (by omega), sq_pM_q fm (by omega)]
  · rw [hm0]; exact a7
  · rw [hm1]; exact d7
  · rw [g5]; exact hscc.2
